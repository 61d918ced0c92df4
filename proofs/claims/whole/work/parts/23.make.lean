/-! THE TWO MAKINGS, step by step. -/
theorem bV {d y : Nat} {as : List Value} {μ p : aMem} {β : Type} {f : aMem → Option β} (h : cV d y as μ = some p) : (cV d y as μ).bind f = f p := by rw [h]; rfl
def lk3 {α : Type} (df : α) : List (Nat × Nat × α) → Nat → Nat → α
  | [], _, _ => df
  | (a, k, v) :: t, b, j => if b = a ∧ j = k then v else lk3 df t b j
def below3 {α : Type} (n : Nat) (l : List (Nat × Nat × α)) : Bool := l.all fun t => decide (t.1 < n)
theorem lk3_out {α : Type} {df : α} {n : Nat} : ∀ {l : List (Nat × Nat × α)}, below3 n l = true → ∀ {b : Nat}, n ≤ b → ∀ j, lk3 df l b j = df
  | [], _, _, _, _ => rfl
  | (a, k, v) :: t, h, b, hb, j => by
    have h2 : decide (a < n) = true ∧ below3 n t = true := by
      have := h
      unfold below3 at this
      rw [List.all_cons, Bool.and_eq_true] at this
      exact this
    have h3 := of_decide_eq_true h2.1
    show (if b = a ∧ j = k then v else lk3 df t b j) = df
    rw [if_neg (fun hh => by omega)]
    exact lk3_out h2.2 hb j
def Mk (L : Nat) (xs : Nat → Int32) (n l : Nat) (lr : List (Nat × Nat × Nat)) (lf : List (Nat × Nat × Int32)) (μ : aMem) : Prop :=
  (mN μ = n) ∧ (mL μ = l) ∧ (∀ a, a < n → mS μ a = shT.getD a (99, 0)) ∧ (mS μ 1000014 = (18, L)) ∧ (∀ a k, mR μ a k = lk3 999999 lr a k) ∧ (∀ a k, a ≠ 1000014 → mF μ a k = lk3 0 lf a k) ∧ (mF μ 1000014 = xs) ∧ (∀ a k, μ.2.1 a k = 0) ∧ (mS μ 1000000 = (99, 0) ∧ mS μ 1000001 = (99, 0) ∧ (∀ a, 1000008 ≤ a → a < 1000014 → mS μ a = (99, 0)) ∧ ∀ a, n ≤ a → a < 1000000 → mS μ a = (99, 0))
theorem Mk.N {L : Nat} {xs : Nat → Int32} {n l : Nat} {lr : List (Nat × Nat × Nat)} {lf : List (Nat × Nat × Int32)} {μ : aMem} (h : Mk L xs n l lr lf μ) : mN μ = n := h.1
theorem Mk.Q {L : Nat} {xs : Nat → Int32} {n l : Nat} {lr : List (Nat × Nat × Nat)} {lf : List (Nat × Nat × Int32)} {μ : aMem} (h : Mk L xs n l lr lf μ) : mL μ = l := h.2.1
theorem Mk.S {L : Nat} {xs : Nat → Int32} {n l : Nat} {lr : List (Nat × Nat × Nat)} {lf : List (Nat × Nat × Int32)} {μ : aMem} (h : Mk L xs n l lr lf μ) : ∀ a, a < n → mS μ a = shT.getD a (99, 0) := h.2.2.1
theorem Mk.X {L : Nat} {xs : Nat → Int32} {n l : Nat} {lr : List (Nat × Nat × Nat)} {lf : List (Nat × Nat × Int32)} {μ : aMem} (h : Mk L xs n l lr lf μ) : mS μ 1000014 = (18, L) := h.2.2.2.1
theorem Mk.R {L : Nat} {xs : Nat → Int32} {n l : Nat} {lr : List (Nat × Nat × Nat)} {lf : List (Nat × Nat × Int32)} {μ : aMem} (h : Mk L xs n l lr lf μ) : ∀ a k, mR μ a k = lk3 999999 lr a k := h.2.2.2.2.1
theorem Mk.F {L : Nat} {xs : Nat → Int32} {n l : Nat} {lr : List (Nat × Nat × Nat)} {lf : List (Nat × Nat × Int32)} {μ : aMem} (h : Mk L xs n l lr lf μ) : ∀ a k, a ≠ 1000014 → mF μ a k = lk3 0 lf a k := h.2.2.2.2.2.1
theorem Mk.Y {L : Nat} {xs : Nat → Int32} {n l : Nat} {lr : List (Nat × Nat × Nat)} {lf : List (Nat × Nat × Int32)} {μ : aMem} (h : Mk L xs n l lr lf μ) : mF μ 1000014 = xs := h.2.2.2.2.2.2.1
theorem Mk.J {L : Nat} {xs : Nat → Int32} {n l : Nat} {lr : List (Nat × Nat × Nat)} {lf : List (Nat × Nat × Int32)} {μ : aMem} (h : Mk L xs n l lr lf μ) : ∀ a k, μ.2.1 a k = 0 := h.2.2.2.2.2.2.2.1
theorem Mk.P {L : Nat} {xs : Nat → Int32} {n l : Nat} {lr : List (Nat × Nat × Nat)} {lf : List (Nat × Nat × Int32)} {μ : aMem} (h : Mk L xs n l lr lf μ) : mS μ 1000000 = (99, 0) ∧ mS μ 1000001 = (99, 0) ∧ (∀ a, 1000008 ≤ a → a < 1000014 → mS μ a = (99, 0)) ∧ ∀ a, n ≤ a → a < 1000000 → mS μ a = (99, 0) := h.2.2.2.2.2.2.2.2
theorem mk_0 (L : Nat) (xs : Nat → Int32) : Mk L xs 0 0 [] [] (mem0 L xs) := by
  refine ⟨?_, ?_, ?_, ?_, ?_, ?_, ?_, ?_, ?_⟩
  · exact rfl
  · exact rfl
  · exact fun a h => absurd h (Nat.not_lt_zero a)
  · exact rfl
  · exact fun _ _ => rfl
  · exact fun a k h => by
        show (if a = 1000014 then xs else fun _ => (0 : Int32)) k = 0
        rw [if_neg h]
  · exact rfl
  · exact fun _ _ => rfl
  · exact ⟨rfl, rfl, fun a h1 h2 => if_neg (by omega), fun a h1 h2 => if_neg (by omega)⟩
theorem mk_new {L : Nat} {xs : Nat → Int32} {n l : Nat} {lr : List (Nat × Nat × Nat)} {lf : List (Nat × Nat × Int32)} {μ : aMem} {kd m : Nat} (G : Mk L xs n l lr lf μ) (h0 : n < 1000000 ∧ shT.getD n (99, 0) = (kd, m)) (h1 : below3 n lr = true) (h2 : below3 n lf = true) : Mk L xs (n + 1) (l + m) lr lf (newC μ kd m) := by
  refine ⟨?_, ?_, ?_, ?_, ?_, ?_, ?_, ?_, ?_⟩
  · exact by show mN μ + 1 = _; rw [G.N]
  · exact by show mL μ + m = _; rw [G.Q]
  · exact fun a h => by
        show up1 (mS μ) (mN μ) (kd, m) a = _
        rw [G.N]
        by_cases e : a = n
        · rw [e, up1_s, h0.2]
        · rw [up1_n _ _ e]; exact G.S a (by omega)
  · exact by
        show up1 (mS μ) (mN μ) (kd, m) 1000014 = _
        rw [G.N, up1_n _ _ (by omega)]; exact G.X
  · exact fun a k => by
        show up1 μ.2.2.1 (mN μ) (fun _ => 999999) a k = _
        rw [G.N]
        by_cases e : a = n
        · rw [e, up1_s, lk3_out h1 (Nat.le_refl n)]
        · rw [up1_n _ _ e]; exact G.R a k
  · exact fun a k h => by
        show up1 μ.1 (mN μ) (fun _ => 0) a k = _
        rw [G.N]
        by_cases e : a = n
        · rw [e, up1_s, lk3_out h2 (Nat.le_refl n)]
        · rw [up1_n _ _ e]; exact G.F a k h
  · exact by
        show up1 μ.1 (mN μ) (fun _ => 0) 1000014 = _
        rw [G.N, up1_n _ _ (by omega)]; exact G.Y
  · exact fun a k => by
        show up1 μ.2.1 (mN μ) (fun _ => 0) a k = _
        rw [G.N]
        by_cases e : a = n
        · rw [e, up1_s]
        · rw [up1_n _ _ e]; exact G.J a k
  · refine ⟨?_, ?_, fun a q1 q2 => ?_, fun a q1 q2 => ?_⟩
    · show up1 (mS μ) (mN μ) (kd, m) 1000000 = _
      rw [G.N, up1_n _ _ (by have := h0.1; omega)]; exact G.P.1
    · show up1 (mS μ) (mN μ) (kd, m) 1000001 = _
      rw [G.N, up1_n _ _ (by have := h0.1; omega)]; exact G.P.2.1
    · show up1 (mS μ) (mN μ) (kd, m) a = _
      rw [G.N, up1_n _ _ (by have := h0.1; omega)]; exact G.P.2.2.1 a q1 q2
    · show up1 (mS μ) (mN μ) (kd, m) a = _
      rw [G.N, up1_n _ _ (by omega)]; exact G.P.2.2.2 a (by omega) q2
theorem mk_setR {L : Nat} {xs : Nat → Int32} {n l : Nat} {lr : List (Nat × Nat × Nat)} {lf : List (Nat × Nat × Int32)} {μ : aMem} {a k v : Nat} (G : Mk L xs n l lr lf μ) : Mk L xs n l ((a, k, v) :: lr) lf (setR μ a k v) := by
  refine ⟨?_, ?_, ?_, ?_, ?_, ?_, ?_, ?_, ?_⟩
  · exact G.N
  · exact G.Q
  · exact G.S
  · exact G.X
  · exact fun b j => by
        show up1 μ.2.2.1 a (up1 (μ.2.2.1 a) k v) b j = if b = a ∧ j = k then v else lk3 999999 lr b j
        by_cases e : b = a
        · rw [e, up1_s]
          by_cases e2 : j = k
          · rw [e2, up1_s, if_pos ⟨rfl, rfl⟩]
          · rw [up1_n _ _ e2, if_neg (fun h => e2 h.2)]; exact G.R a j
        · rw [up1_n _ _ e, if_neg (fun h => e h.1)]; exact G.R b j
  · exact G.F
  · exact G.Y
  · exact G.J
  · exact G.P
theorem mk_setF {L : Nat} {xs : Nat → Int32} {n l : Nat} {lr : List (Nat × Nat × Nat)} {lf : List (Nat × Nat × Int32)} {μ : aMem} {a k : Nat} {v : Int32} (G : Mk L xs n l lr lf μ) (h : a ≠ 1000014) : Mk L xs n l lr ((a, k, v) :: lf) (setF μ a k v) := by
  refine ⟨?_, ?_, ?_, ?_, ?_, ?_, ?_, ?_, ?_⟩
  · exact G.N
  · exact G.Q
  · exact G.S
  · exact G.X
  · exact G.R
  · exact fun b j hb => by
        show up1 μ.1 a (up1 (μ.1 a) k v) b j = if b = a ∧ j = k then v else lk3 0 lf b j
        by_cases e : b = a
        · rw [e, up1_s]
          by_cases e2 : j = k
          · rw [e2, up1_s, if_pos ⟨rfl, rfl⟩]
          · rw [up1_n _ _ e2, if_neg (fun h => e2 h.2)]; exact G.F a j h
        · rw [up1_n _ _ e, if_neg (fun h => e h.1)]; exact G.F b j hb
  · exact by
        show up1 μ.1 a (up1 (μ.1 a) k v) 1000014 = xs
        rw [up1_n _ _ (Ne.symm h)]; exact G.Y
  · exact G.J
  · exact G.P

section MAKE
variable (L : Nat) (xs : Nat → Int32)
def k_0 (L : Nat) (xs : Nat → Int32) : aMem := mem0 L xs
theorem G_0 : Mk L xs 0 0 [] [] (k_0 L xs) := mk_0 L xs
theorem ix_0 : ix 0 = 0 := rfl
theorem ix_1 : ix 1 = 1 := rfl
theorem ix_2 : ix 2 = 2 := rfl
theorem ix_3 : ix 3 = 3 := rfl
theorem ix_4 : ix 4 = 4 := rfl
theorem ix_5 : ix 5 = 5 := rfl
theorem ix_6 : ix 6 = 6 := rfl
theorem ix_7 : ix 7 = 7 := rfl
theorem ix_8 : ix 8 = 8 := rfl
theorem ix_9 : ix 9 = 9 := rfl
theorem ix_10 : ix 10 = 10 := rfl
theorem ix_14 : ix 14 = 14 := rfl
theorem ix_20 : ix 20 = 20 := rfl
theorem ix_24 : ix 24 = 24 := rfl
theorem ix_60 : ix 60 = 60 := rfl
theorem ix_96 : ix 96 = 96 := rfl
theorem ix_100 : ix 100 = 100 := rfl
theorem ix_120 : ix 120 = 120 := rfl
theorem ix_128 : ix 128 = 128 := rfl
theorem ix_2981 : ix 2981 = 2981 := rfl
theorem ix_3114 : ix 3114 = 3114 := rfl
theorem ix_4000 : ix 4000 = 4000 := rfl
def k_1 (L : Nat) (xs : Nat → Int32) : aMem := newC (k_0 L xs) 8 12
theorem G_1 : Mk L xs 1 12 [] [] (k_1 L xs) := mk_new (G_0 L xs) (by decide +kernel) (by decide +kernel) (by decide +kernel)
theorem E_1 : newC (k_0 L xs) 8 12 = k_1 L xs := rfl
def k_2 (L : Nat) (xs : Nat → Int32) : aMem := newC (k_1 L xs) 2 7
theorem G_2 : Mk L xs 2 19 [] [] (k_2 L xs) := mk_new (G_1 L xs) (by decide +kernel) (by decide +kernel) (by decide +kernel)
theorem E_2 : newC (k_1 L xs) 2 7 = k_2 L xs := rfl
def k_3 (L : Nat) (xs : Nat → Int32) : aMem := newC (k_2 L xs) 12 10
theorem G_3 : Mk L xs 3 29 [] [] (k_3 L xs) := mk_new (G_2 L xs) (by decide +kernel) (by decide +kernel) (by decide +kernel)
theorem E_3 : newC (k_2 L xs) 12 10 = k_3 L xs := rfl
def k_4 (L : Nat) (xs : Nat → Int32) : aMem := setR (k_3 L xs) 1 0 2
def zr_4 : List (Nat × Nat × Nat) := (1, 0, 2) :: []
theorem G_4 : Mk L xs 3 29 zr_4 [] (k_4 L xs) := mk_setR (G_3 L xs)
theorem E_4 : setR (k_3 L xs) 1 0 2 = k_4 L xs := rfl
def k_5 (L : Nat) (xs : Nat → Int32) : aMem := newC (k_4 L xs) 0 4
theorem G_5 : Mk L xs 4 33 zr_4 [] (k_5 L xs) := mk_new (G_4 L xs) (by decide +kernel) (by decide +kernel) (by decide +kernel)
theorem E_5 : newC (k_4 L xs) 0 4 = k_5 L xs := rfl
def k_6 (L : Nat) (xs : Nat → Int32) : aMem := newC (k_5 L xs) 10 20
theorem G_6 : Mk L xs 5 53 zr_4 [] (k_6 L xs) := mk_new (G_5 L xs) (by decide +kernel) (by decide +kernel) (by decide +kernel)
theorem E_6 : newC (k_5 L xs) 10 20 = k_6 L xs := rfl
def k_7 (L : Nat) (xs : Nat → Int32) : aMem := setR (k_6 L xs) 3 0 4
def zr_7 : List (Nat × Nat × Nat) := (3, 0, 4) :: zr_4
theorem G_7 : Mk L xs 5 53 zr_7 [] (k_7 L xs) := mk_setR (G_6 L xs)
theorem E_7 : setR (k_6 L xs) 3 0 4 = k_7 L xs := rfl
def k_8 (L : Nat) (xs : Nat → Int32) : aMem := newC (k_7 L xs) 10 20
theorem G_8 : Mk L xs 6 73 zr_7 [] (k_8 L xs) := mk_new (G_7 L xs) (by decide +kernel) (by decide +kernel) (by decide +kernel)
theorem E_8 : newC (k_7 L xs) 10 20 = k_8 L xs := rfl
def k_9 (L : Nat) (xs : Nat → Int32) : aMem := setR (k_8 L xs) 3 1 5
def zr_9 : List (Nat × Nat × Nat) := (3, 1, 5) :: zr_7
theorem G_9 : Mk L xs 6 73 zr_9 [] (k_9 L xs) := mk_setR (G_8 L xs)
theorem E_9 : setR (k_8 L xs) 3 1 5 = k_9 L xs := rfl
def k_10 (L : Nat) (xs : Nat → Int32) : aMem := newC (k_9 L xs) 10 20
theorem G_10 : Mk L xs 7 93 zr_9 [] (k_10 L xs) := mk_new (G_9 L xs) (by decide +kernel) (by decide +kernel) (by decide +kernel)
theorem E_10 : newC (k_9 L xs) 10 20 = k_10 L xs := rfl
def k_11 (L : Nat) (xs : Nat → Int32) : aMem := setR (k_10 L xs) 3 2 6
def zr_11 : List (Nat × Nat × Nat) := (3, 2, 6) :: zr_9
theorem G_11 : Mk L xs 7 93 zr_11 [] (k_11 L xs) := mk_setR (G_10 L xs)
theorem E_11 : setR (k_10 L xs) 3 2 6 = k_11 L xs := rfl
theorem kt_0_0 : Rn 98 0 (0, [.ref 3], [], k_5 L xs) = Rn 98 0 (12, [.ref 3], [], k_7 L xs) := by
  have n5 := (G_5 L xs).N
  have s5_3 : mS (k_5 L xs) 3 = (0, 4) := (G_5 L xs).S 3 (by decide)
  have n6 := (G_6 L xs).N
  have s6_3 : mS (k_6 L xs) 3 = (0, 4) := (G_6 L xs).S 3 (by decide)
  have s6_4 : mS (k_6 L xs) 4 = (10, 20) := (G_6 L xs).S 4 (by decide)
  have n7 := (G_7 L xs).N
  have s7_3 : mS (k_7 L xs) 3 = (0, 4) := (G_7 L xs).S 3 (by decide)
  have s7_4 : mS (k_7 L xs) 4 = (10, 20) := (G_7 L xs).S 4 (by decide)
  have r7_0 : mR (k_7 L xs) 3 0 = 4 := ((G_7 L xs).R 3 0).trans (by decide +kernel)
  refine (q_0_0 98 3 (k_5 L xs)).trans ?_
  try simp only [n5, s5_3, n6, s6_3, s6_4, n7, s7_3, s7_4, r7_0, E_6, E_7, ix_0, ix_1, ix_2, ix_3, ix_4, ix_5, ix_6, ix_7, ix_8, ix_9, ix_10, ix_14, ix_20, ix_24, ix_60, ix_96, ix_100, ix_120, ix_128, ix_2981, ix_3114, ix_4000]
  try rfl
theorem kt_0_1 : Rn 98 0 (12, [.ref 3], [], k_7 L xs) = Rn 98 0 (20, [.ref 3], [], k_9 L xs) := by
  have n7 := (G_7 L xs).N
  have s7_3 : mS (k_7 L xs) 3 = (0, 4) := (G_7 L xs).S 3 (by decide)
  have n8 := (G_8 L xs).N
  have s8_3 : mS (k_8 L xs) 3 = (0, 4) := (G_8 L xs).S 3 (by decide)
  have s8_5 : mS (k_8 L xs) 5 = (10, 20) := (G_8 L xs).S 5 (by decide)
  have n9 := (G_9 L xs).N
  have s9_3 : mS (k_9 L xs) 3 = (0, 4) := (G_9 L xs).S 3 (by decide)
  have s9_5 : mS (k_9 L xs) 5 = (10, 20) := (G_9 L xs).S 5 (by decide)
  have r9_1 : mR (k_9 L xs) 3 1 = 5 := ((G_9 L xs).R 3 1).trans (by decide +kernel)
  refine (q_0_12 98 3 (k_7 L xs)).trans ?_
  try simp only [n7, s7_3, n8, s8_3, s8_5, n9, s9_3, s9_5, r9_1, E_8, E_9, ix_0, ix_1, ix_2, ix_3, ix_4, ix_5, ix_6, ix_7, ix_8, ix_9, ix_10, ix_14, ix_20, ix_24, ix_60, ix_96, ix_100, ix_120, ix_128, ix_2981, ix_3114, ix_4000]
  try rfl
theorem kt_0_2 : Rn 98 0 (20, [.ref 3], [], k_9 L xs) = Rn 98 0 (28, [.ref 3], [], k_11 L xs) := by
  have n9 := (G_9 L xs).N
  have s9_3 : mS (k_9 L xs) 3 = (0, 4) := (G_9 L xs).S 3 (by decide)
  have n10 := (G_10 L xs).N
  have s10_3 : mS (k_10 L xs) 3 = (0, 4) := (G_10 L xs).S 3 (by decide)
  have s10_6 : mS (k_10 L xs) 6 = (10, 20) := (G_10 L xs).S 6 (by decide)
  have n11 := (G_11 L xs).N
  have s11_3 : mS (k_11 L xs) 3 = (0, 4) := (G_11 L xs).S 3 (by decide)
  have s11_6 : mS (k_11 L xs) 6 = (10, 20) := (G_11 L xs).S 6 (by decide)
  have r11_2 : mR (k_11 L xs) 3 2 = 6 := ((G_11 L xs).R 3 2).trans (by decide +kernel)
  refine (q_0_20 98 3 (k_9 L xs)).trans ?_
  try simp only [n9, s9_3, n10, s10_3, s10_6, n11, s11_3, s11_6, r11_2, E_10, E_11, ix_0, ix_1, ix_2, ix_3, ix_4, ix_5, ix_6, ix_7, ix_8, ix_9, ix_10, ix_14, ix_20, ix_24, ix_60, ix_96, ix_100, ix_120, ix_128, ix_2981, ix_3114, ix_4000]
  try rfl
theorem kt_0_3 : Rn 98 0 (28, [.ref 3], [], k_11 L xs) = some (none, k_11 L xs) := by
  have n11 := (G_11 L xs).N
  have s11_3 : mS (k_11 L xs) 3 = (0, 4) := (G_11 L xs).S 3 (by decide)
  refine (q_0_28 98 3 (k_11 L xs)).trans ?_
  try simp only [n11, s11_3, ix_0, ix_1, ix_2, ix_3, ix_4, ix_5, ix_6, ix_7, ix_8, ix_9, ix_10, ix_14, ix_20, ix_24, ix_60, ix_96, ix_100, ix_120, ix_128, ix_2981, ix_3114, ix_4000]
  try rfl
theorem kc_0 : cV 98 0 [.ref 3] (k_5 L xs) = some (k_11 L xs) := i_0 ((kt_0_0 L xs).trans ((kt_0_1 L xs).trans ((kt_0_2 L xs).trans (kt_0_3 L xs))))
def k_12 (L : Nat) (xs : Nat → Int32) : aMem := setR (k_11 L xs) 1 2 3
def zr_12 : List (Nat × Nat × Nat) := (1, 2, 3) :: zr_11
theorem G_12 : Mk L xs 7 93 zr_12 [] (k_12 L xs) := mk_setR (G_11 L xs)
theorem E_12 : setR (k_11 L xs) 1 2 3 = k_12 L xs := rfl
def k_13 (L : Nat) (xs : Nat → Int32) : aMem := newC (k_12 L xs) 15 14
theorem G_13 : Mk L xs 8 107 zr_12 [] (k_13 L xs) := mk_new (G_12 L xs) (by decide +kernel) (by decide +kernel) (by decide +kernel)
theorem E_13 : newC (k_12 L xs) 15 14 = k_13 L xs := rfl
def k_14 (L : Nat) (xs : Nat → Int32) : aMem := setR (k_13 L xs) 1 3 7
def zr_14 : List (Nat × Nat × Nat) := (1, 3, 7) :: zr_12
theorem G_14 : Mk L xs 8 107 zr_14 [] (k_14 L xs) := mk_setR (G_13 L xs)
theorem E_14 : setR (k_13 L xs) 1 3 7 = k_14 L xs := rfl
def k_15 (L : Nat) (xs : Nat → Int32) : aMem := newC (k_14 L xs) 10 3
theorem G_15 : Mk L xs 9 110 zr_14 [] (k_15 L xs) := mk_new (G_14 L xs) (by decide +kernel) (by decide +kernel) (by decide +kernel)
theorem E_15 : newC (k_14 L xs) 10 3 = k_15 L xs := rfl
def k_16 (L : Nat) (xs : Nat → Int32) : aMem := setR (k_15 L xs) 1 5 8
def zr_16 : List (Nat × Nat × Nat) := (1, 5, 8) :: zr_14
theorem G_16 : Mk L xs 9 110 zr_16 [] (k_16 L xs) := mk_setR (G_15 L xs)
theorem E_16 : setR (k_15 L xs) 1 5 8 = k_16 L xs := rfl
def k_17 (L : Nat) (xs : Nat → Int32) : aMem := setF (k_16 L xs) 1 6 1
def zf_17 : List (Nat × Nat × Int32) := (1, 6, 1) :: []
theorem G_17 : Mk L xs 9 110 zr_16 zf_17 (k_17 L xs) := mk_setF (G_16 L xs) (by decide)
theorem E_17 : setF (k_16 L xs) 1 6 1 = k_17 L xs := rfl
def k_18 (L : Nat) (xs : Nat → Int32) : aMem := newC (k_17 L xs) 1 5
theorem G_18 : Mk L xs 10 115 zr_16 zf_17 (k_18 L xs) := mk_new (G_17 L xs) (by decide +kernel) (by decide +kernel) (by decide +kernel)
theorem E_18 : newC (k_17 L xs) 1 5 = k_18 L xs := rfl
theorem kt_1_0 : Rn 98 5 (0, [.ref 9], [], k_18 L xs) = some (none, k_18 L xs) := by
  have n18 := (G_18 L xs).N
  have s18_9 : mS (k_18 L xs) 9 = (1, 5) := (G_18 L xs).S 9 (by decide)
  refine (q_5_0 98 9 (k_18 L xs)).trans ?_
  try simp only [n18, s18_9, ix_0, ix_1, ix_2, ix_3, ix_4, ix_5, ix_6, ix_7, ix_8, ix_9, ix_10, ix_14, ix_20, ix_24, ix_60, ix_96, ix_100, ix_120, ix_128, ix_2981, ix_3114, ix_4000]
  try rfl
theorem kc_1 : cV 98 5 [.ref 9] (k_18 L xs) = some (k_18 L xs) := i_5 (kt_1_0 L xs)
def k_19 (L : Nat) (xs : Nat → Int32) : aMem := setR (k_18 L xs) 2 0 9
def zr_19 : List (Nat × Nat × Nat) := (2, 0, 9) :: zr_16
theorem G_19 : Mk L xs 10 115 zr_19 zf_17 (k_19 L xs) := mk_setR (G_18 L xs)
theorem E_19 : setR (k_18 L xs) 2 0 9 = k_19 L xs := rfl
def k_20 (L : Nat) (xs : Nat → Int32) : aMem := newC (k_19 L xs) 1 5
theorem G_20 : Mk L xs 11 120 zr_19 zf_17 (k_20 L xs) := mk_new (G_19 L xs) (by decide +kernel) (by decide +kernel) (by decide +kernel)
theorem E_20 : newC (k_19 L xs) 1 5 = k_20 L xs := rfl
theorem kt_2_0 : Rn 98 5 (0, [.ref 10], [], k_20 L xs) = some (none, k_20 L xs) := by
  have n20 := (G_20 L xs).N
  have s20_10 : mS (k_20 L xs) 10 = (1, 5) := (G_20 L xs).S 10 (by decide)
  refine (q_5_0 98 10 (k_20 L xs)).trans ?_
  try simp only [n20, s20_10, ix_0, ix_1, ix_2, ix_3, ix_4, ix_5, ix_6, ix_7, ix_8, ix_9, ix_10, ix_14, ix_20, ix_24, ix_60, ix_96, ix_100, ix_120, ix_128, ix_2981, ix_3114, ix_4000]
  try rfl
theorem kc_2 : cV 98 5 [.ref 10] (k_20 L xs) = some (k_20 L xs) := i_5 (kt_2_0 L xs)
def k_21 (L : Nat) (xs : Nat → Int32) : aMem := setR (k_20 L xs) 2 1 10
def zr_21 : List (Nat × Nat × Nat) := (2, 1, 10) :: zr_19
theorem G_21 : Mk L xs 11 120 zr_21 zf_17 (k_21 L xs) := mk_setR (G_20 L xs)
theorem E_21 : setR (k_20 L xs) 2 1 10 = k_21 L xs := rfl
def k_22 (L : Nat) (xs : Nat → Int32) : aMem := newC (k_21 L xs) 1 5
theorem G_22 : Mk L xs 12 125 zr_21 zf_17 (k_22 L xs) := mk_new (G_21 L xs) (by decide +kernel) (by decide +kernel) (by decide +kernel)
theorem E_22 : newC (k_21 L xs) 1 5 = k_22 L xs := rfl
theorem kt_3_0 : Rn 98 5 (0, [.ref 11], [], k_22 L xs) = some (none, k_22 L xs) := by
  have n22 := (G_22 L xs).N
  have s22_11 : mS (k_22 L xs) 11 = (1, 5) := (G_22 L xs).S 11 (by decide)
  refine (q_5_0 98 11 (k_22 L xs)).trans ?_
  try simp only [n22, s22_11, ix_0, ix_1, ix_2, ix_3, ix_4, ix_5, ix_6, ix_7, ix_8, ix_9, ix_10, ix_14, ix_20, ix_24, ix_60, ix_96, ix_100, ix_120, ix_128, ix_2981, ix_3114, ix_4000]
  try rfl
theorem kc_3 : cV 98 5 [.ref 11] (k_22 L xs) = some (k_22 L xs) := i_5 (kt_3_0 L xs)
def k_23 (L : Nat) (xs : Nat → Int32) : aMem := setR (k_22 L xs) 2 2 11
def zr_23 : List (Nat × Nat × Nat) := (2, 2, 11) :: zr_21
theorem G_23 : Mk L xs 12 125 zr_23 zf_17 (k_23 L xs) := mk_setR (G_22 L xs)
theorem E_23 : setR (k_22 L xs) 2 2 11 = k_23 L xs := rfl
def k_24 (L : Nat) (xs : Nat → Int32) : aMem := newC (k_23 L xs) 1 5
theorem G_24 : Mk L xs 13 130 zr_23 zf_17 (k_24 L xs) := mk_new (G_23 L xs) (by decide +kernel) (by decide +kernel) (by decide +kernel)
theorem E_24 : newC (k_23 L xs) 1 5 = k_24 L xs := rfl
theorem kt_4_0 : Rn 98 5 (0, [.ref 12], [], k_24 L xs) = some (none, k_24 L xs) := by
  have n24 := (G_24 L xs).N
  have s24_12 : mS (k_24 L xs) 12 = (1, 5) := (G_24 L xs).S 12 (by decide)
  refine (q_5_0 98 12 (k_24 L xs)).trans ?_
  try simp only [n24, s24_12, ix_0, ix_1, ix_2, ix_3, ix_4, ix_5, ix_6, ix_7, ix_8, ix_9, ix_10, ix_14, ix_20, ix_24, ix_60, ix_96, ix_100, ix_120, ix_128, ix_2981, ix_3114, ix_4000]
  try rfl
theorem kc_4 : cV 98 5 [.ref 12] (k_24 L xs) = some (k_24 L xs) := i_5 (kt_4_0 L xs)
def k_25 (L : Nat) (xs : Nat → Int32) : aMem := setR (k_24 L xs) 2 3 12
def zr_25 : List (Nat × Nat × Nat) := (2, 3, 12) :: zr_23
theorem G_25 : Mk L xs 13 130 zr_25 zf_17 (k_25 L xs) := mk_setR (G_24 L xs)
theorem E_25 : setR (k_24 L xs) 2 3 12 = k_25 L xs := rfl
def k_26 (L : Nat) (xs : Nat → Int32) : aMem := newC (k_25 L xs) 1 5
theorem G_26 : Mk L xs 14 135 zr_25 zf_17 (k_26 L xs) := mk_new (G_25 L xs) (by decide +kernel) (by decide +kernel) (by decide +kernel)
theorem E_26 : newC (k_25 L xs) 1 5 = k_26 L xs := rfl
theorem kt_5_0 : Rn 98 5 (0, [.ref 13], [], k_26 L xs) = some (none, k_26 L xs) := by
  have n26 := (G_26 L xs).N
  have s26_13 : mS (k_26 L xs) 13 = (1, 5) := (G_26 L xs).S 13 (by decide)
  refine (q_5_0 98 13 (k_26 L xs)).trans ?_
  try simp only [n26, s26_13, ix_0, ix_1, ix_2, ix_3, ix_4, ix_5, ix_6, ix_7, ix_8, ix_9, ix_10, ix_14, ix_20, ix_24, ix_60, ix_96, ix_100, ix_120, ix_128, ix_2981, ix_3114, ix_4000]
  try rfl
theorem kc_5 : cV 98 5 [.ref 13] (k_26 L xs) = some (k_26 L xs) := i_5 (kt_5_0 L xs)
def k_27 (L : Nat) (xs : Nat → Int32) : aMem := setR (k_26 L xs) 2 4 13
def zr_27 : List (Nat × Nat × Nat) := (2, 4, 13) :: zr_25
theorem G_27 : Mk L xs 14 135 zr_27 zf_17 (k_27 L xs) := mk_setR (G_26 L xs)
theorem E_27 : setR (k_26 L xs) 2 4 13 = k_27 L xs := rfl
def k_28 (L : Nat) (xs : Nat → Int32) : aMem := newC (k_27 L xs) 1 5
theorem G_28 : Mk L xs 15 140 zr_27 zf_17 (k_28 L xs) := mk_new (G_27 L xs) (by decide +kernel) (by decide +kernel) (by decide +kernel)
theorem E_28 : newC (k_27 L xs) 1 5 = k_28 L xs := rfl
theorem kt_6_0 : Rn 98 5 (0, [.ref 14], [], k_28 L xs) = some (none, k_28 L xs) := by
  have n28 := (G_28 L xs).N
  have s28_14 : mS (k_28 L xs) 14 = (1, 5) := (G_28 L xs).S 14 (by decide)
  refine (q_5_0 98 14 (k_28 L xs)).trans ?_
  try simp only [n28, s28_14, ix_0, ix_1, ix_2, ix_3, ix_4, ix_5, ix_6, ix_7, ix_8, ix_9, ix_10, ix_14, ix_20, ix_24, ix_60, ix_96, ix_100, ix_120, ix_128, ix_2981, ix_3114, ix_4000]
  try rfl
theorem kc_6 : cV 98 5 [.ref 14] (k_28 L xs) = some (k_28 L xs) := i_5 (kt_6_0 L xs)
def k_29 (L : Nat) (xs : Nat → Int32) : aMem := setR (k_28 L xs) 2 5 14
def zr_29 : List (Nat × Nat × Nat) := (2, 5, 14) :: zr_27
theorem G_29 : Mk L xs 15 140 zr_29 zf_17 (k_29 L xs) := mk_setR (G_28 L xs)
theorem E_29 : setR (k_28 L xs) 2 5 14 = k_29 L xs := rfl
def k_30 (L : Nat) (xs : Nat → Int32) : aMem := newC (k_29 L xs) 1 5
theorem G_30 : Mk L xs 16 145 zr_29 zf_17 (k_30 L xs) := mk_new (G_29 L xs) (by decide +kernel) (by decide +kernel) (by decide +kernel)
theorem E_30 : newC (k_29 L xs) 1 5 = k_30 L xs := rfl
theorem kt_7_0 : Rn 98 5 (0, [.ref 15], [], k_30 L xs) = some (none, k_30 L xs) := by
  have n30 := (G_30 L xs).N
  have s30_15 : mS (k_30 L xs) 15 = (1, 5) := (G_30 L xs).S 15 (by decide)
  refine (q_5_0 98 15 (k_30 L xs)).trans ?_
  try simp only [n30, s30_15, ix_0, ix_1, ix_2, ix_3, ix_4, ix_5, ix_6, ix_7, ix_8, ix_9, ix_10, ix_14, ix_20, ix_24, ix_60, ix_96, ix_100, ix_120, ix_128, ix_2981, ix_3114, ix_4000]
  try rfl
theorem kc_7 : cV 98 5 [.ref 15] (k_30 L xs) = some (k_30 L xs) := i_5 (kt_7_0 L xs)
def k_31 (L : Nat) (xs : Nat → Int32) : aMem := setR (k_30 L xs) 2 6 15
def zr_31 : List (Nat × Nat × Nat) := (2, 6, 15) :: zr_29
theorem G_31 : Mk L xs 16 145 zr_31 zf_17 (k_31 L xs) := mk_setR (G_30 L xs)
theorem E_31 : setR (k_30 L xs) 2 6 15 = k_31 L xs := rfl
def k_32 (L : Nat) (xs : Nat → Int32) : aMem := newC (k_31 L xs) 1 5
theorem G_32 : Mk L xs 17 150 zr_31 zf_17 (k_32 L xs) := mk_new (G_31 L xs) (by decide +kernel) (by decide +kernel) (by decide +kernel)
theorem E_32 : newC (k_31 L xs) 1 5 = k_32 L xs := rfl
theorem kt_8_0 : Rn 98 5 (0, [.ref 16], [], k_32 L xs) = some (none, k_32 L xs) := by
  have n32 := (G_32 L xs).N
  have s32_16 : mS (k_32 L xs) 16 = (1, 5) := (G_32 L xs).S 16 (by decide)
  refine (q_5_0 98 16 (k_32 L xs)).trans ?_
  try simp only [n32, s32_16, ix_0, ix_1, ix_2, ix_3, ix_4, ix_5, ix_6, ix_7, ix_8, ix_9, ix_10, ix_14, ix_20, ix_24, ix_60, ix_96, ix_100, ix_120, ix_128, ix_2981, ix_3114, ix_4000]
  try rfl
theorem kc_8 : cV 98 5 [.ref 16] (k_32 L xs) = some (k_32 L xs) := i_5 (kt_8_0 L xs)
def k_33 (L : Nat) (xs : Nat → Int32) : aMem := setR (k_32 L xs) 2 7 16
def zr_33 : List (Nat × Nat × Nat) := (2, 7, 16) :: zr_31
theorem G_33 : Mk L xs 17 150 zr_33 zf_17 (k_33 L xs) := mk_setR (G_32 L xs)
theorem E_33 : setR (k_32 L xs) 2 7 16 = k_33 L xs := rfl
def k_34 (L : Nat) (xs : Nat → Int32) : aMem := newC (k_33 L xs) 1 5
theorem G_34 : Mk L xs 18 155 zr_33 zf_17 (k_34 L xs) := mk_new (G_33 L xs) (by decide +kernel) (by decide +kernel) (by decide +kernel)
theorem E_34 : newC (k_33 L xs) 1 5 = k_34 L xs := rfl
theorem kt_9_0 : Rn 98 5 (0, [.ref 17], [], k_34 L xs) = some (none, k_34 L xs) := by
  have n34 := (G_34 L xs).N
  have s34_17 : mS (k_34 L xs) 17 = (1, 5) := (G_34 L xs).S 17 (by decide)
  refine (q_5_0 98 17 (k_34 L xs)).trans ?_
  try simp only [n34, s34_17, ix_0, ix_1, ix_2, ix_3, ix_4, ix_5, ix_6, ix_7, ix_8, ix_9, ix_10, ix_14, ix_20, ix_24, ix_60, ix_96, ix_100, ix_120, ix_128, ix_2981, ix_3114, ix_4000]
  try rfl
theorem kc_9 : cV 98 5 [.ref 17] (k_34 L xs) = some (k_34 L xs) := i_5 (kt_9_0 L xs)
def k_35 (L : Nat) (xs : Nat → Int32) : aMem := setR (k_34 L xs) 2 8 17
def zr_35 : List (Nat × Nat × Nat) := (2, 8, 17) :: zr_33
theorem G_35 : Mk L xs 18 155 zr_35 zf_17 (k_35 L xs) := mk_setR (G_34 L xs)
theorem E_35 : setR (k_34 L xs) 2 8 17 = k_35 L xs := rfl
def k_36 (L : Nat) (xs : Nat → Int32) : aMem := newC (k_35 L xs) 1 5
theorem G_36 : Mk L xs 19 160 zr_35 zf_17 (k_36 L xs) := mk_new (G_35 L xs) (by decide +kernel) (by decide +kernel) (by decide +kernel)
theorem E_36 : newC (k_35 L xs) 1 5 = k_36 L xs := rfl
theorem kt_10_0 : Rn 98 5 (0, [.ref 18], [], k_36 L xs) = some (none, k_36 L xs) := by
  have n36 := (G_36 L xs).N
  have s36_18 : mS (k_36 L xs) 18 = (1, 5) := (G_36 L xs).S 18 (by decide)
  refine (q_5_0 98 18 (k_36 L xs)).trans ?_
  try simp only [n36, s36_18, ix_0, ix_1, ix_2, ix_3, ix_4, ix_5, ix_6, ix_7, ix_8, ix_9, ix_10, ix_14, ix_20, ix_24, ix_60, ix_96, ix_100, ix_120, ix_128, ix_2981, ix_3114, ix_4000]
  try rfl
theorem kc_10 : cV 98 5 [.ref 18] (k_36 L xs) = some (k_36 L xs) := i_5 (kt_10_0 L xs)
def k_37 (L : Nat) (xs : Nat → Int32) : aMem := setR (k_36 L xs) 2 9 18
def zr_37 : List (Nat × Nat × Nat) := (2, 9, 18) :: zr_35
theorem G_37 : Mk L xs 19 160 zr_37 zf_17 (k_37 L xs) := mk_setR (G_36 L xs)
theorem E_37 : setR (k_36 L xs) 2 9 18 = k_37 L xs := rfl
def k_38 (L : Nat) (xs : Nat → Int32) : aMem := setF (k_37 L xs) 8 0 (-1)
def zf_38 : List (Nat × Nat × Int32) := (8, 0, (-1)) :: zf_17
theorem G_38 : Mk L xs 19 160 zr_37 zf_38 (k_38 L xs) := mk_setF (G_37 L xs) (by decide)
theorem E_38 : setF (k_37 L xs) 8 0 (-1) = k_38 L xs := rfl
def k_39 (L : Nat) (xs : Nat → Int32) : aMem := setF (k_38 L xs) 8 1 (-1)
def zf_39 : List (Nat × Nat × Int32) := (8, 1, (-1)) :: zf_38
theorem G_39 : Mk L xs 19 160 zr_37 zf_39 (k_39 L xs) := mk_setF (G_38 L xs) (by decide)
theorem E_39 : setF (k_38 L xs) 8 1 (-1) = k_39 L xs := rfl
def k_40 (L : Nat) (xs : Nat → Int32) : aMem := setF (k_39 L xs) 8 2 (-1)
def zf_40 : List (Nat × Nat × Int32) := (8, 2, (-1)) :: zf_39
theorem G_40 : Mk L xs 19 160 zr_37 zf_40 (k_40 L xs) := mk_setF (G_39 L xs) (by decide)
theorem E_40 : setF (k_39 L xs) 8 2 (-1) = k_40 L xs := rfl
theorem kt_11_0 : Rn 98 231 (0, [.ref 8, .int (-1), un, un], [], k_37 L xs) = Rn 98 231 (5, [.ref 8, .int (-1), .int 0, .int 3], [], k_37 L xs) := by
  have n37 := (G_37 L xs).N
  have s37_8 : mS (k_37 L xs) 8 = (10, 3) := (G_37 L xs).S 8 (by decide)
  refine (q_231_0 98 8 (-1) (k_37 L xs)).trans ?_
  try simp only [n37, s37_8, Option.bind_some, ix_0, ix_1, ix_2, ix_3, ix_4, ix_5, ix_6, ix_7, ix_8, ix_9, ix_10, ix_14, ix_20, ix_24, ix_60, ix_96, ix_100, ix_120, ix_128, ix_2981, ix_3114, ix_4000]
  try rfl
theorem kt_11_1 : Rn 98 231 (5, [.ref 8, .int (-1), .int 0, .int 3], [], k_37 L xs) = Rn 98 231 (5, [.ref 8, .int (-1), .int 1, .int 3], [], k_38 L xs) := by
  have n37 := (G_37 L xs).N
  have s37_8 : mS (k_37 L xs) 8 = (10, 3) := (G_37 L xs).S 8 (by decide)
  have n38 := (G_38 L xs).N
  have s38_8 : mS (k_38 L xs) 8 = (10, 3) := (G_38 L xs).S 8 (by decide)
  refine (q_231_5 98 8 (-1) (0) (3) (k_37 L xs)).trans ?_
  try simp only [n37, s37_8, n38, s38_8, E_38, Option.bind_some, ix_0, ix_1, ix_2, ix_3, ix_4, ix_5, ix_6, ix_7, ix_8, ix_9, ix_10, ix_14, ix_20, ix_24, ix_60, ix_96, ix_100, ix_120, ix_128, ix_2981, ix_3114, ix_4000]
  try rfl
theorem kt_11_2 : Rn 98 231 (5, [.ref 8, .int (-1), .int 1, .int 3], [], k_38 L xs) = Rn 98 231 (5, [.ref 8, .int (-1), .int 2, .int 3], [], k_39 L xs) := by
  have n38 := (G_38 L xs).N
  have s38_8 : mS (k_38 L xs) 8 = (10, 3) := (G_38 L xs).S 8 (by decide)
  have n39 := (G_39 L xs).N
  have s39_8 : mS (k_39 L xs) 8 = (10, 3) := (G_39 L xs).S 8 (by decide)
  refine (q_231_5 98 8 (-1) (1) (3) (k_38 L xs)).trans ?_
  try simp only [n38, s38_8, n39, s39_8, E_39, Option.bind_some, ix_0, ix_1, ix_2, ix_3, ix_4, ix_5, ix_6, ix_7, ix_8, ix_9, ix_10, ix_14, ix_20, ix_24, ix_60, ix_96, ix_100, ix_120, ix_128, ix_2981, ix_3114, ix_4000]
  try rfl
theorem kt_11_3 : Rn 98 231 (5, [.ref 8, .int (-1), .int 2, .int 3], [], k_39 L xs) = Rn 98 231 (5, [.ref 8, .int (-1), .int 3, .int 3], [], k_40 L xs) := by
  have n39 := (G_39 L xs).N
  have s39_8 : mS (k_39 L xs) 8 = (10, 3) := (G_39 L xs).S 8 (by decide)
  have n40 := (G_40 L xs).N
  have s40_8 : mS (k_40 L xs) 8 = (10, 3) := (G_40 L xs).S 8 (by decide)
  refine (q_231_5 98 8 (-1) (2) (3) (k_39 L xs)).trans ?_
  try simp only [n39, s39_8, n40, s40_8, E_40, Option.bind_some, ix_0, ix_1, ix_2, ix_3, ix_4, ix_5, ix_6, ix_7, ix_8, ix_9, ix_10, ix_14, ix_20, ix_24, ix_60, ix_96, ix_100, ix_120, ix_128, ix_2981, ix_3114, ix_4000]
  try rfl
theorem kt_11_4 : Rn 98 231 (5, [.ref 8, .int (-1), .int 3, .int 3], [], k_40 L xs) = some (none, k_40 L xs) := by
  have n40 := (G_40 L xs).N
  have s40_8 : mS (k_40 L xs) 8 = (10, 3) := (G_40 L xs).S 8 (by decide)
  refine (q_231_5 98 8 (-1) (3) (3) (k_40 L xs)).trans ?_
  try simp only [n40, s40_8, Option.bind_some, ix_0, ix_1, ix_2, ix_3, ix_4, ix_5, ix_6, ix_7, ix_8, ix_9, ix_10, ix_14, ix_20, ix_24, ix_60, ix_96, ix_100, ix_120, ix_128, ix_2981, ix_3114, ix_4000]
  try rfl
theorem kc_11 : cV 98 231 [.ref 8, .int (-1)] (k_37 L xs) = some (k_40 L xs) := i_231 ((kt_11_0 L xs).trans ((kt_11_1 L xs).trans ((kt_11_2 L xs).trans ((kt_11_3 L xs).trans (kt_11_4 L xs)))))
theorem kt_12_0 : Rn 99 11 (0, [.ref 1, un], [], k_2 L xs) = Rn 99 11 (13, [.ref 1, un], [], k_4 L xs) := by
  have n2 := (G_2 L xs).N
  have s2_1 : mS (k_2 L xs) 1 = (2, 7) := (G_2 L xs).S 1 (by decide)
  have n3 := (G_3 L xs).N
  have s3_1 : mS (k_3 L xs) 1 = (2, 7) := (G_3 L xs).S 1 (by decide)
  have s3_2 : mS (k_3 L xs) 2 = (12, 10) := (G_3 L xs).S 2 (by decide)
  have n4 := (G_4 L xs).N
  have s4_1 : mS (k_4 L xs) 1 = (2, 7) := (G_4 L xs).S 1 (by decide)
  have s4_2 : mS (k_4 L xs) 2 = (12, 10) := (G_4 L xs).S 2 (by decide)
  have r4_0 : mR (k_4 L xs) 1 0 = 2 := ((G_4 L xs).R 1 0).trans (by decide +kernel)
  refine (q_11_0 98 1 (k_2 L xs)).trans ?_
  try simp only [n2, s2_1, n3, s3_1, s3_2, n4, s4_1, s4_2, r4_0, E_3, E_4, ix_0, ix_1, ix_2, ix_3, ix_4, ix_5, ix_6, ix_7, ix_8, ix_9, ix_10, ix_14, ix_20, ix_24, ix_60, ix_96, ix_100, ix_120, ix_128, ix_2981, ix_3114, ix_4000]
  try rfl
theorem kt_12_1 : Rn 99 11 (13, [.ref 1, un], [], k_4 L xs) = Rn 99 11 (24, [.ref 1, un], [], k_12 L xs) := by
  have n4 := (G_4 L xs).N
  have s4_1 : mS (k_4 L xs) 1 = (2, 7) := (G_4 L xs).S 1 (by decide)
  have n5 := (G_5 L xs).N
  have s5_1 : mS (k_5 L xs) 1 = (2, 7) := (G_5 L xs).S 1 (by decide)
  have s5_3 : mS (k_5 L xs) 3 = (0, 4) := (G_5 L xs).S 3 (by decide)
  have n11 := (G_11 L xs).N
  have s11_1 : mS (k_11 L xs) 1 = (2, 7) := (G_11 L xs).S 1 (by decide)
  have s11_3 : mS (k_11 L xs) 3 = (0, 4) := (G_11 L xs).S 3 (by decide)
  have n12 := (G_12 L xs).N
  have s12_1 : mS (k_12 L xs) 1 = (2, 7) := (G_12 L xs).S 1 (by decide)
  have s12_3 : mS (k_12 L xs) 3 = (0, 4) := (G_12 L xs).S 3 (by decide)
  have r12_2 : mR (k_12 L xs) 1 2 = 3 := ((G_12 L xs).R 1 2).trans (by decide +kernel)
  refine (q_11_13 98 1 un (k_4 L xs)).trans ?_
  try simp only [n4, s4_1, n5, s5_1, s5_3, n11, s11_1, s11_3, n12, s12_1, s12_3, r12_2, E_5, E_12, kc_0, Option.bind_some, ix_0, ix_1, ix_2, ix_3, ix_4, ix_5, ix_6, ix_7, ix_8, ix_9, ix_10, ix_14, ix_20, ix_24, ix_60, ix_96, ix_100, ix_120, ix_128, ix_2981, ix_3114, ix_4000]
  try rfl
theorem kt_12_2 : Rn 99 11 (24, [.ref 1, un], [], k_12 L xs) = Rn 99 11 (33, [.ref 1, un], [], k_14 L xs) := by
  have n12 := (G_12 L xs).N
  have s12_1 : mS (k_12 L xs) 1 = (2, 7) := (G_12 L xs).S 1 (by decide)
  have n13 := (G_13 L xs).N
  have s13_1 : mS (k_13 L xs) 1 = (2, 7) := (G_13 L xs).S 1 (by decide)
  have s13_7 : mS (k_13 L xs) 7 = (15, 14) := (G_13 L xs).S 7 (by decide)
  have n14 := (G_14 L xs).N
  have s14_1 : mS (k_14 L xs) 1 = (2, 7) := (G_14 L xs).S 1 (by decide)
  have s14_7 : mS (k_14 L xs) 7 = (15, 14) := (G_14 L xs).S 7 (by decide)
  have r14_3 : mR (k_14 L xs) 1 3 = 7 := ((G_14 L xs).R 1 3).trans (by decide +kernel)
  refine (q_11_24 98 1 un (k_12 L xs)).trans ?_
  try simp only [n12, s12_1, n13, s13_1, s13_7, n14, s14_1, s14_7, r14_3, E_13, E_14, ix_0, ix_1, ix_2, ix_3, ix_4, ix_5, ix_6, ix_7, ix_8, ix_9, ix_10, ix_14, ix_20, ix_24, ix_60, ix_96, ix_100, ix_120, ix_128, ix_2981, ix_3114, ix_4000]
  try rfl
theorem kt_12_3 : Rn 99 11 (33, [.ref 1, un], [], k_14 L xs) = Rn 99 11 (40, [.ref 1, un], [], k_16 L xs) := by
  have n14 := (G_14 L xs).N
  have s14_1 : mS (k_14 L xs) 1 = (2, 7) := (G_14 L xs).S 1 (by decide)
  have n15 := (G_15 L xs).N
  have s15_1 : mS (k_15 L xs) 1 = (2, 7) := (G_15 L xs).S 1 (by decide)
  have s15_8 : mS (k_15 L xs) 8 = (10, 3) := (G_15 L xs).S 8 (by decide)
  have n16 := (G_16 L xs).N
  have s16_1 : mS (k_16 L xs) 1 = (2, 7) := (G_16 L xs).S 1 (by decide)
  have s16_8 : mS (k_16 L xs) 8 = (10, 3) := (G_16 L xs).S 8 (by decide)
  have r16_5 : mR (k_16 L xs) 1 5 = 8 := ((G_16 L xs).R 1 5).trans (by decide +kernel)
  refine (q_11_33 98 1 un (k_14 L xs)).trans ?_
  try simp only [n14, s14_1, n15, s15_1, s15_8, n16, s16_1, s16_8, r16_5, E_15, E_16, ix_0, ix_1, ix_2, ix_3, ix_4, ix_5, ix_6, ix_7, ix_8, ix_9, ix_10, ix_14, ix_20, ix_24, ix_60, ix_96, ix_100, ix_120, ix_128, ix_2981, ix_3114, ix_4000]
  try rfl
theorem kt_12_4 : Rn 99 11 (40, [.ref 1, un], [], k_16 L xs) = Rn 99 11 (45, [.ref 1, un], [], k_17 L xs) := by
  have n16 := (G_16 L xs).N
  have s16_1 : mS (k_16 L xs) 1 = (2, 7) := (G_16 L xs).S 1 (by decide)
  have r16_5 : mR (k_16 L xs) 1 5 = 8 := ((G_16 L xs).R 1 5).trans (by decide +kernel)
  have n17 := (G_17 L xs).N
  have s17_1 : mS (k_17 L xs) 1 = (2, 7) := (G_17 L xs).S 1 (by decide)
  have r17_5 : mR (k_17 L xs) 1 5 = 8 := ((G_17 L xs).R 1 5).trans (by decide +kernel)
  refine (q_11_40 98 1 un (k_16 L xs)).trans ?_
  try simp only [n16, s16_1, r16_5, n17, s17_1, r17_5, E_17, ix_0, ix_1, ix_2, ix_3, ix_4, ix_5, ix_6, ix_7, ix_8, ix_9, ix_10, ix_14, ix_20, ix_24, ix_60, ix_96, ix_100, ix_120, ix_128, ix_2981, ix_3114, ix_4000]
  try rfl
theorem kt_12_5 : Rn 99 11 (45, [.ref 1, un], [], k_17 L xs) = Rn 99 11 (47, [.ref 1, .int 0], [], k_17 L xs) := by
  have n17 := (G_17 L xs).N
  have s17_1 : mS (k_17 L xs) 1 = (2, 7) := (G_17 L xs).S 1 (by decide)
  have r17_5 : mR (k_17 L xs) 1 5 = 8 := ((G_17 L xs).R 1 5).trans (by decide +kernel)
  refine (q_11_45 98 1 un (k_17 L xs)).trans ?_
  try simp only [n17, s17_1, r17_5, ix_0, ix_1, ix_2, ix_3, ix_4, ix_5, ix_6, ix_7, ix_8, ix_9, ix_10, ix_14, ix_20, ix_24, ix_60, ix_96, ix_100, ix_120, ix_128, ix_2981, ix_3114, ix_4000]
  try rfl
theorem kt_12_6 : Rn 99 11 (47, [.ref 1, .int 0], [], k_17 L xs) = Rn 99 11 (47, [.ref 1, .int 1], [], k_19 L xs) := by
  have n17 := (G_17 L xs).N
  have s17_1 : mS (k_17 L xs) 1 = (2, 7) := (G_17 L xs).S 1 (by decide)
  have s17_2 : mS (k_17 L xs) 2 = (12, 10) := (G_17 L xs).S 2 (by decide)
  have r17_0 : mR (k_17 L xs) 1 0 = 2 := ((G_17 L xs).R 1 0).trans (by decide +kernel)
  have r17_5 : mR (k_17 L xs) 1 5 = 8 := ((G_17 L xs).R 1 5).trans (by decide +kernel)
  have n18 := (G_18 L xs).N
  have s18_1 : mS (k_18 L xs) 1 = (2, 7) := (G_18 L xs).S 1 (by decide)
  have s18_2 : mS (k_18 L xs) 2 = (12, 10) := (G_18 L xs).S 2 (by decide)
  have s18_9 : mS (k_18 L xs) 9 = (1, 5) := (G_18 L xs).S 9 (by decide)
  have r18_0 : mR (k_18 L xs) 1 0 = 2 := ((G_18 L xs).R 1 0).trans (by decide +kernel)
  have r18_5 : mR (k_18 L xs) 1 5 = 8 := ((G_18 L xs).R 1 5).trans (by decide +kernel)
  have n19 := (G_19 L xs).N
  have s19_1 : mS (k_19 L xs) 1 = (2, 7) := (G_19 L xs).S 1 (by decide)
  have s19_2 : mS (k_19 L xs) 2 = (12, 10) := (G_19 L xs).S 2 (by decide)
  have s19_9 : mS (k_19 L xs) 9 = (1, 5) := (G_19 L xs).S 9 (by decide)
  have r19_0 : mR (k_19 L xs) 1 0 = 2 := ((G_19 L xs).R 1 0).trans (by decide +kernel)
  have r19_5 : mR (k_19 L xs) 1 5 = 8 := ((G_19 L xs).R 1 5).trans (by decide +kernel)
  refine (q_11_47 98 1 (0) (k_17 L xs)).trans ?_
  try simp only [n17, s17_1, s17_2, r17_0, r17_5, n18, s18_1, s18_2, s18_9, r18_0, r18_5, n19, s19_1, s19_2, s19_9, r19_0, r19_5, E_18, E_19, kc_1, Option.bind_some, ix_0, ix_1, ix_2, ix_3, ix_4, ix_5, ix_6, ix_7, ix_8, ix_9, ix_10, ix_14, ix_20, ix_24, ix_60, ix_96, ix_100, ix_120, ix_128, ix_2981, ix_3114, ix_4000]
  try rfl
theorem kt_12_7 : Rn 99 11 (47, [.ref 1, .int 1], [], k_19 L xs) = Rn 99 11 (47, [.ref 1, .int 2], [], k_21 L xs) := by
  have n19 := (G_19 L xs).N
  have s19_1 : mS (k_19 L xs) 1 = (2, 7) := (G_19 L xs).S 1 (by decide)
  have s19_2 : mS (k_19 L xs) 2 = (12, 10) := (G_19 L xs).S 2 (by decide)
  have r19_0 : mR (k_19 L xs) 1 0 = 2 := ((G_19 L xs).R 1 0).trans (by decide +kernel)
  have r19_5 : mR (k_19 L xs) 1 5 = 8 := ((G_19 L xs).R 1 5).trans (by decide +kernel)
  have n20 := (G_20 L xs).N
  have s20_1 : mS (k_20 L xs) 1 = (2, 7) := (G_20 L xs).S 1 (by decide)
  have s20_2 : mS (k_20 L xs) 2 = (12, 10) := (G_20 L xs).S 2 (by decide)
  have s20_10 : mS (k_20 L xs) 10 = (1, 5) := (G_20 L xs).S 10 (by decide)
  have r20_0 : mR (k_20 L xs) 1 0 = 2 := ((G_20 L xs).R 1 0).trans (by decide +kernel)
  have r20_5 : mR (k_20 L xs) 1 5 = 8 := ((G_20 L xs).R 1 5).trans (by decide +kernel)
  have n21 := (G_21 L xs).N
  have s21_1 : mS (k_21 L xs) 1 = (2, 7) := (G_21 L xs).S 1 (by decide)
  have s21_2 : mS (k_21 L xs) 2 = (12, 10) := (G_21 L xs).S 2 (by decide)
  have s21_10 : mS (k_21 L xs) 10 = (1, 5) := (G_21 L xs).S 10 (by decide)
  have r21_0 : mR (k_21 L xs) 1 0 = 2 := ((G_21 L xs).R 1 0).trans (by decide +kernel)
  have r21_5 : mR (k_21 L xs) 1 5 = 8 := ((G_21 L xs).R 1 5).trans (by decide +kernel)
  refine (q_11_47 98 1 (1) (k_19 L xs)).trans ?_
  try simp only [n19, s19_1, s19_2, r19_0, r19_5, n20, s20_1, s20_2, s20_10, r20_0, r20_5, n21, s21_1, s21_2, s21_10, r21_0, r21_5, E_20, E_21, kc_2, Option.bind_some, ix_0, ix_1, ix_2, ix_3, ix_4, ix_5, ix_6, ix_7, ix_8, ix_9, ix_10, ix_14, ix_20, ix_24, ix_60, ix_96, ix_100, ix_120, ix_128, ix_2981, ix_3114, ix_4000]
  try rfl
theorem kt_12_8 : Rn 99 11 (47, [.ref 1, .int 2], [], k_21 L xs) = Rn 99 11 (47, [.ref 1, .int 3], [], k_23 L xs) := by
  have n21 := (G_21 L xs).N
  have s21_1 : mS (k_21 L xs) 1 = (2, 7) := (G_21 L xs).S 1 (by decide)
  have s21_2 : mS (k_21 L xs) 2 = (12, 10) := (G_21 L xs).S 2 (by decide)
  have r21_0 : mR (k_21 L xs) 1 0 = 2 := ((G_21 L xs).R 1 0).trans (by decide +kernel)
  have r21_5 : mR (k_21 L xs) 1 5 = 8 := ((G_21 L xs).R 1 5).trans (by decide +kernel)
  have n22 := (G_22 L xs).N
  have s22_1 : mS (k_22 L xs) 1 = (2, 7) := (G_22 L xs).S 1 (by decide)
  have s22_2 : mS (k_22 L xs) 2 = (12, 10) := (G_22 L xs).S 2 (by decide)
  have s22_11 : mS (k_22 L xs) 11 = (1, 5) := (G_22 L xs).S 11 (by decide)
  have r22_0 : mR (k_22 L xs) 1 0 = 2 := ((G_22 L xs).R 1 0).trans (by decide +kernel)
  have r22_5 : mR (k_22 L xs) 1 5 = 8 := ((G_22 L xs).R 1 5).trans (by decide +kernel)
  have n23 := (G_23 L xs).N
  have s23_1 : mS (k_23 L xs) 1 = (2, 7) := (G_23 L xs).S 1 (by decide)
  have s23_2 : mS (k_23 L xs) 2 = (12, 10) := (G_23 L xs).S 2 (by decide)
  have s23_11 : mS (k_23 L xs) 11 = (1, 5) := (G_23 L xs).S 11 (by decide)
  have r23_0 : mR (k_23 L xs) 1 0 = 2 := ((G_23 L xs).R 1 0).trans (by decide +kernel)
  have r23_5 : mR (k_23 L xs) 1 5 = 8 := ((G_23 L xs).R 1 5).trans (by decide +kernel)
  refine (q_11_47 98 1 (2) (k_21 L xs)).trans ?_
  try simp only [n21, s21_1, s21_2, r21_0, r21_5, n22, s22_1, s22_2, s22_11, r22_0, r22_5, n23, s23_1, s23_2, s23_11, r23_0, r23_5, E_22, E_23, kc_3, Option.bind_some, ix_0, ix_1, ix_2, ix_3, ix_4, ix_5, ix_6, ix_7, ix_8, ix_9, ix_10, ix_14, ix_20, ix_24, ix_60, ix_96, ix_100, ix_120, ix_128, ix_2981, ix_3114, ix_4000]
  try rfl
theorem kt_12_9 : Rn 99 11 (47, [.ref 1, .int 3], [], k_23 L xs) = Rn 99 11 (47, [.ref 1, .int 4], [], k_25 L xs) := by
  have n23 := (G_23 L xs).N
  have s23_1 : mS (k_23 L xs) 1 = (2, 7) := (G_23 L xs).S 1 (by decide)
  have s23_2 : mS (k_23 L xs) 2 = (12, 10) := (G_23 L xs).S 2 (by decide)
  have r23_0 : mR (k_23 L xs) 1 0 = 2 := ((G_23 L xs).R 1 0).trans (by decide +kernel)
  have r23_5 : mR (k_23 L xs) 1 5 = 8 := ((G_23 L xs).R 1 5).trans (by decide +kernel)
  have n24 := (G_24 L xs).N
  have s24_1 : mS (k_24 L xs) 1 = (2, 7) := (G_24 L xs).S 1 (by decide)
  have s24_2 : mS (k_24 L xs) 2 = (12, 10) := (G_24 L xs).S 2 (by decide)
  have s24_12 : mS (k_24 L xs) 12 = (1, 5) := (G_24 L xs).S 12 (by decide)
  have r24_0 : mR (k_24 L xs) 1 0 = 2 := ((G_24 L xs).R 1 0).trans (by decide +kernel)
  have r24_5 : mR (k_24 L xs) 1 5 = 8 := ((G_24 L xs).R 1 5).trans (by decide +kernel)
  have n25 := (G_25 L xs).N
  have s25_1 : mS (k_25 L xs) 1 = (2, 7) := (G_25 L xs).S 1 (by decide)
  have s25_2 : mS (k_25 L xs) 2 = (12, 10) := (G_25 L xs).S 2 (by decide)
  have s25_12 : mS (k_25 L xs) 12 = (1, 5) := (G_25 L xs).S 12 (by decide)
  have r25_0 : mR (k_25 L xs) 1 0 = 2 := ((G_25 L xs).R 1 0).trans (by decide +kernel)
  have r25_5 : mR (k_25 L xs) 1 5 = 8 := ((G_25 L xs).R 1 5).trans (by decide +kernel)
  refine (q_11_47 98 1 (3) (k_23 L xs)).trans ?_
  try simp only [n23, s23_1, s23_2, r23_0, r23_5, n24, s24_1, s24_2, s24_12, r24_0, r24_5, n25, s25_1, s25_2, s25_12, r25_0, r25_5, E_24, E_25, kc_4, Option.bind_some, ix_0, ix_1, ix_2, ix_3, ix_4, ix_5, ix_6, ix_7, ix_8, ix_9, ix_10, ix_14, ix_20, ix_24, ix_60, ix_96, ix_100, ix_120, ix_128, ix_2981, ix_3114, ix_4000]
  try rfl
theorem kt_12_10 : Rn 99 11 (47, [.ref 1, .int 4], [], k_25 L xs) = Rn 99 11 (47, [.ref 1, .int 5], [], k_27 L xs) := by
  have n25 := (G_25 L xs).N
  have s25_1 : mS (k_25 L xs) 1 = (2, 7) := (G_25 L xs).S 1 (by decide)
  have s25_2 : mS (k_25 L xs) 2 = (12, 10) := (G_25 L xs).S 2 (by decide)
  have r25_0 : mR (k_25 L xs) 1 0 = 2 := ((G_25 L xs).R 1 0).trans (by decide +kernel)
  have r25_5 : mR (k_25 L xs) 1 5 = 8 := ((G_25 L xs).R 1 5).trans (by decide +kernel)
  have n26 := (G_26 L xs).N
  have s26_1 : mS (k_26 L xs) 1 = (2, 7) := (G_26 L xs).S 1 (by decide)
  have s26_2 : mS (k_26 L xs) 2 = (12, 10) := (G_26 L xs).S 2 (by decide)
  have s26_13 : mS (k_26 L xs) 13 = (1, 5) := (G_26 L xs).S 13 (by decide)
  have r26_0 : mR (k_26 L xs) 1 0 = 2 := ((G_26 L xs).R 1 0).trans (by decide +kernel)
  have r26_5 : mR (k_26 L xs) 1 5 = 8 := ((G_26 L xs).R 1 5).trans (by decide +kernel)
  have n27 := (G_27 L xs).N
  have s27_1 : mS (k_27 L xs) 1 = (2, 7) := (G_27 L xs).S 1 (by decide)
  have s27_2 : mS (k_27 L xs) 2 = (12, 10) := (G_27 L xs).S 2 (by decide)
  have s27_13 : mS (k_27 L xs) 13 = (1, 5) := (G_27 L xs).S 13 (by decide)
  have r27_0 : mR (k_27 L xs) 1 0 = 2 := ((G_27 L xs).R 1 0).trans (by decide +kernel)
  have r27_5 : mR (k_27 L xs) 1 5 = 8 := ((G_27 L xs).R 1 5).trans (by decide +kernel)
  refine (q_11_47 98 1 (4) (k_25 L xs)).trans ?_
  try simp only [n25, s25_1, s25_2, r25_0, r25_5, n26, s26_1, s26_2, s26_13, r26_0, r26_5, n27, s27_1, s27_2, s27_13, r27_0, r27_5, E_26, E_27, kc_5, Option.bind_some, ix_0, ix_1, ix_2, ix_3, ix_4, ix_5, ix_6, ix_7, ix_8, ix_9, ix_10, ix_14, ix_20, ix_24, ix_60, ix_96, ix_100, ix_120, ix_128, ix_2981, ix_3114, ix_4000]
  try rfl
theorem kt_12_11 : Rn 99 11 (47, [.ref 1, .int 5], [], k_27 L xs) = Rn 99 11 (47, [.ref 1, .int 6], [], k_29 L xs) := by
  have n27 := (G_27 L xs).N
  have s27_1 : mS (k_27 L xs) 1 = (2, 7) := (G_27 L xs).S 1 (by decide)
  have s27_2 : mS (k_27 L xs) 2 = (12, 10) := (G_27 L xs).S 2 (by decide)
  have r27_0 : mR (k_27 L xs) 1 0 = 2 := ((G_27 L xs).R 1 0).trans (by decide +kernel)
  have r27_5 : mR (k_27 L xs) 1 5 = 8 := ((G_27 L xs).R 1 5).trans (by decide +kernel)
  have n28 := (G_28 L xs).N
  have s28_1 : mS (k_28 L xs) 1 = (2, 7) := (G_28 L xs).S 1 (by decide)
  have s28_2 : mS (k_28 L xs) 2 = (12, 10) := (G_28 L xs).S 2 (by decide)
  have s28_14 : mS (k_28 L xs) 14 = (1, 5) := (G_28 L xs).S 14 (by decide)
  have r28_0 : mR (k_28 L xs) 1 0 = 2 := ((G_28 L xs).R 1 0).trans (by decide +kernel)
  have r28_5 : mR (k_28 L xs) 1 5 = 8 := ((G_28 L xs).R 1 5).trans (by decide +kernel)
  have n29 := (G_29 L xs).N
  have s29_1 : mS (k_29 L xs) 1 = (2, 7) := (G_29 L xs).S 1 (by decide)
  have s29_2 : mS (k_29 L xs) 2 = (12, 10) := (G_29 L xs).S 2 (by decide)
  have s29_14 : mS (k_29 L xs) 14 = (1, 5) := (G_29 L xs).S 14 (by decide)
  have r29_0 : mR (k_29 L xs) 1 0 = 2 := ((G_29 L xs).R 1 0).trans (by decide +kernel)
  have r29_5 : mR (k_29 L xs) 1 5 = 8 := ((G_29 L xs).R 1 5).trans (by decide +kernel)
  refine (q_11_47 98 1 (5) (k_27 L xs)).trans ?_
  try simp only [n27, s27_1, s27_2, r27_0, r27_5, n28, s28_1, s28_2, s28_14, r28_0, r28_5, n29, s29_1, s29_2, s29_14, r29_0, r29_5, E_28, E_29, kc_6, Option.bind_some, ix_0, ix_1, ix_2, ix_3, ix_4, ix_5, ix_6, ix_7, ix_8, ix_9, ix_10, ix_14, ix_20, ix_24, ix_60, ix_96, ix_100, ix_120, ix_128, ix_2981, ix_3114, ix_4000]
  try rfl
theorem kt_12_12 : Rn 99 11 (47, [.ref 1, .int 6], [], k_29 L xs) = Rn 99 11 (47, [.ref 1, .int 7], [], k_31 L xs) := by
  have n29 := (G_29 L xs).N
  have s29_1 : mS (k_29 L xs) 1 = (2, 7) := (G_29 L xs).S 1 (by decide)
  have s29_2 : mS (k_29 L xs) 2 = (12, 10) := (G_29 L xs).S 2 (by decide)
  have r29_0 : mR (k_29 L xs) 1 0 = 2 := ((G_29 L xs).R 1 0).trans (by decide +kernel)
  have r29_5 : mR (k_29 L xs) 1 5 = 8 := ((G_29 L xs).R 1 5).trans (by decide +kernel)
  have n30 := (G_30 L xs).N
  have s30_1 : mS (k_30 L xs) 1 = (2, 7) := (G_30 L xs).S 1 (by decide)
  have s30_2 : mS (k_30 L xs) 2 = (12, 10) := (G_30 L xs).S 2 (by decide)
  have s30_15 : mS (k_30 L xs) 15 = (1, 5) := (G_30 L xs).S 15 (by decide)
  have r30_0 : mR (k_30 L xs) 1 0 = 2 := ((G_30 L xs).R 1 0).trans (by decide +kernel)
  have r30_5 : mR (k_30 L xs) 1 5 = 8 := ((G_30 L xs).R 1 5).trans (by decide +kernel)
  have n31 := (G_31 L xs).N
  have s31_1 : mS (k_31 L xs) 1 = (2, 7) := (G_31 L xs).S 1 (by decide)
  have s31_2 : mS (k_31 L xs) 2 = (12, 10) := (G_31 L xs).S 2 (by decide)
  have s31_15 : mS (k_31 L xs) 15 = (1, 5) := (G_31 L xs).S 15 (by decide)
  have r31_0 : mR (k_31 L xs) 1 0 = 2 := ((G_31 L xs).R 1 0).trans (by decide +kernel)
  have r31_5 : mR (k_31 L xs) 1 5 = 8 := ((G_31 L xs).R 1 5).trans (by decide +kernel)
  refine (q_11_47 98 1 (6) (k_29 L xs)).trans ?_
  try simp only [n29, s29_1, s29_2, r29_0, r29_5, n30, s30_1, s30_2, s30_15, r30_0, r30_5, n31, s31_1, s31_2, s31_15, r31_0, r31_5, E_30, E_31, kc_7, Option.bind_some, ix_0, ix_1, ix_2, ix_3, ix_4, ix_5, ix_6, ix_7, ix_8, ix_9, ix_10, ix_14, ix_20, ix_24, ix_60, ix_96, ix_100, ix_120, ix_128, ix_2981, ix_3114, ix_4000]
  try rfl
theorem kt_12_13 : Rn 99 11 (47, [.ref 1, .int 7], [], k_31 L xs) = Rn 99 11 (47, [.ref 1, .int 8], [], k_33 L xs) := by
  have n31 := (G_31 L xs).N
  have s31_1 : mS (k_31 L xs) 1 = (2, 7) := (G_31 L xs).S 1 (by decide)
  have s31_2 : mS (k_31 L xs) 2 = (12, 10) := (G_31 L xs).S 2 (by decide)
  have r31_0 : mR (k_31 L xs) 1 0 = 2 := ((G_31 L xs).R 1 0).trans (by decide +kernel)
  have r31_5 : mR (k_31 L xs) 1 5 = 8 := ((G_31 L xs).R 1 5).trans (by decide +kernel)
  have n32 := (G_32 L xs).N
  have s32_1 : mS (k_32 L xs) 1 = (2, 7) := (G_32 L xs).S 1 (by decide)
  have s32_2 : mS (k_32 L xs) 2 = (12, 10) := (G_32 L xs).S 2 (by decide)
  have s32_16 : mS (k_32 L xs) 16 = (1, 5) := (G_32 L xs).S 16 (by decide)
  have r32_0 : mR (k_32 L xs) 1 0 = 2 := ((G_32 L xs).R 1 0).trans (by decide +kernel)
  have r32_5 : mR (k_32 L xs) 1 5 = 8 := ((G_32 L xs).R 1 5).trans (by decide +kernel)
  have n33 := (G_33 L xs).N
  have s33_1 : mS (k_33 L xs) 1 = (2, 7) := (G_33 L xs).S 1 (by decide)
  have s33_2 : mS (k_33 L xs) 2 = (12, 10) := (G_33 L xs).S 2 (by decide)
  have s33_16 : mS (k_33 L xs) 16 = (1, 5) := (G_33 L xs).S 16 (by decide)
  have r33_0 : mR (k_33 L xs) 1 0 = 2 := ((G_33 L xs).R 1 0).trans (by decide +kernel)
  have r33_5 : mR (k_33 L xs) 1 5 = 8 := ((G_33 L xs).R 1 5).trans (by decide +kernel)
  refine (q_11_47 98 1 (7) (k_31 L xs)).trans ?_
  try simp only [n31, s31_1, s31_2, r31_0, r31_5, n32, s32_1, s32_2, s32_16, r32_0, r32_5, n33, s33_1, s33_2, s33_16, r33_0, r33_5, E_32, E_33, kc_8, Option.bind_some, ix_0, ix_1, ix_2, ix_3, ix_4, ix_5, ix_6, ix_7, ix_8, ix_9, ix_10, ix_14, ix_20, ix_24, ix_60, ix_96, ix_100, ix_120, ix_128, ix_2981, ix_3114, ix_4000]
  try rfl
theorem kt_12_14 : Rn 99 11 (47, [.ref 1, .int 8], [], k_33 L xs) = Rn 99 11 (47, [.ref 1, .int 9], [], k_35 L xs) := by
  have n33 := (G_33 L xs).N
  have s33_1 : mS (k_33 L xs) 1 = (2, 7) := (G_33 L xs).S 1 (by decide)
  have s33_2 : mS (k_33 L xs) 2 = (12, 10) := (G_33 L xs).S 2 (by decide)
  have r33_0 : mR (k_33 L xs) 1 0 = 2 := ((G_33 L xs).R 1 0).trans (by decide +kernel)
  have r33_5 : mR (k_33 L xs) 1 5 = 8 := ((G_33 L xs).R 1 5).trans (by decide +kernel)
  have n34 := (G_34 L xs).N
  have s34_1 : mS (k_34 L xs) 1 = (2, 7) := (G_34 L xs).S 1 (by decide)
  have s34_2 : mS (k_34 L xs) 2 = (12, 10) := (G_34 L xs).S 2 (by decide)
  have s34_17 : mS (k_34 L xs) 17 = (1, 5) := (G_34 L xs).S 17 (by decide)
  have r34_0 : mR (k_34 L xs) 1 0 = 2 := ((G_34 L xs).R 1 0).trans (by decide +kernel)
  have r34_5 : mR (k_34 L xs) 1 5 = 8 := ((G_34 L xs).R 1 5).trans (by decide +kernel)
  have n35 := (G_35 L xs).N
  have s35_1 : mS (k_35 L xs) 1 = (2, 7) := (G_35 L xs).S 1 (by decide)
  have s35_2 : mS (k_35 L xs) 2 = (12, 10) := (G_35 L xs).S 2 (by decide)
  have s35_17 : mS (k_35 L xs) 17 = (1, 5) := (G_35 L xs).S 17 (by decide)
  have r35_0 : mR (k_35 L xs) 1 0 = 2 := ((G_35 L xs).R 1 0).trans (by decide +kernel)
  have r35_5 : mR (k_35 L xs) 1 5 = 8 := ((G_35 L xs).R 1 5).trans (by decide +kernel)
  refine (q_11_47 98 1 (8) (k_33 L xs)).trans ?_
  try simp only [n33, s33_1, s33_2, r33_0, r33_5, n34, s34_1, s34_2, s34_17, r34_0, r34_5, n35, s35_1, s35_2, s35_17, r35_0, r35_5, E_34, E_35, kc_9, Option.bind_some, ix_0, ix_1, ix_2, ix_3, ix_4, ix_5, ix_6, ix_7, ix_8, ix_9, ix_10, ix_14, ix_20, ix_24, ix_60, ix_96, ix_100, ix_120, ix_128, ix_2981, ix_3114, ix_4000]
  try rfl
theorem kt_12_15 : Rn 99 11 (47, [.ref 1, .int 9], [], k_35 L xs) = Rn 99 11 (47, [.ref 1, .int 10], [], k_37 L xs) := by
  have n35 := (G_35 L xs).N
  have s35_1 : mS (k_35 L xs) 1 = (2, 7) := (G_35 L xs).S 1 (by decide)
  have s35_2 : mS (k_35 L xs) 2 = (12, 10) := (G_35 L xs).S 2 (by decide)
  have r35_0 : mR (k_35 L xs) 1 0 = 2 := ((G_35 L xs).R 1 0).trans (by decide +kernel)
  have r35_5 : mR (k_35 L xs) 1 5 = 8 := ((G_35 L xs).R 1 5).trans (by decide +kernel)
  have n36 := (G_36 L xs).N
  have s36_1 : mS (k_36 L xs) 1 = (2, 7) := (G_36 L xs).S 1 (by decide)
  have s36_2 : mS (k_36 L xs) 2 = (12, 10) := (G_36 L xs).S 2 (by decide)
  have s36_18 : mS (k_36 L xs) 18 = (1, 5) := (G_36 L xs).S 18 (by decide)
  have r36_0 : mR (k_36 L xs) 1 0 = 2 := ((G_36 L xs).R 1 0).trans (by decide +kernel)
  have r36_5 : mR (k_36 L xs) 1 5 = 8 := ((G_36 L xs).R 1 5).trans (by decide +kernel)
  have n37 := (G_37 L xs).N
  have s37_1 : mS (k_37 L xs) 1 = (2, 7) := (G_37 L xs).S 1 (by decide)
  have s37_2 : mS (k_37 L xs) 2 = (12, 10) := (G_37 L xs).S 2 (by decide)
  have s37_18 : mS (k_37 L xs) 18 = (1, 5) := (G_37 L xs).S 18 (by decide)
  have r37_0 : mR (k_37 L xs) 1 0 = 2 := ((G_37 L xs).R 1 0).trans (by decide +kernel)
  have r37_5 : mR (k_37 L xs) 1 5 = 8 := ((G_37 L xs).R 1 5).trans (by decide +kernel)
  refine (q_11_47 98 1 (9) (k_35 L xs)).trans ?_
  try simp only [n35, s35_1, s35_2, r35_0, r35_5, n36, s36_1, s36_2, s36_18, r36_0, r36_5, n37, s37_1, s37_2, s37_18, r37_0, r37_5, E_36, E_37, kc_10, Option.bind_some, ix_0, ix_1, ix_2, ix_3, ix_4, ix_5, ix_6, ix_7, ix_8, ix_9, ix_10, ix_14, ix_20, ix_24, ix_60, ix_96, ix_100, ix_120, ix_128, ix_2981, ix_3114, ix_4000]
  try rfl
theorem kt_12_16 : Rn 99 11 (47, [.ref 1, .int 10], [], k_37 L xs) = some (none, k_40 L xs) := by
  have n37 := (G_37 L xs).N
  have s37_1 : mS (k_37 L xs) 1 = (2, 7) := (G_37 L xs).S 1 (by decide)
  have r37_5 : mR (k_37 L xs) 1 5 = 8 := ((G_37 L xs).R 1 5).trans (by decide +kernel)
  have n40 := (G_40 L xs).N
  have s40_1 : mS (k_40 L xs) 1 = (2, 7) := (G_40 L xs).S 1 (by decide)
  have r40_5 : mR (k_40 L xs) 1 5 = 8 := ((G_40 L xs).R 1 5).trans (by decide +kernel)
  refine (q_11_47 98 1 (10) (k_37 L xs)).trans ?_
  try simp only [n37, s37_1, r37_5, n40, s40_1, r40_5, kc_11, Option.bind_some, ix_0, ix_1, ix_2, ix_3, ix_4, ix_5, ix_6, ix_7, ix_8, ix_9, ix_10, ix_14, ix_20, ix_24, ix_60, ix_96, ix_100, ix_120, ix_128, ix_2981, ix_3114, ix_4000]
  try rfl
theorem kc_12 : cV 99 11 [.ref 1] (k_2 L xs) = some (k_40 L xs) := i_11 ((kt_12_0 L xs).trans ((kt_12_1 L xs).trans ((kt_12_2 L xs).trans ((kt_12_3 L xs).trans ((kt_12_4 L xs).trans ((kt_12_5 L xs).trans ((kt_12_6 L xs).trans ((kt_12_7 L xs).trans ((kt_12_8 L xs).trans ((kt_12_9 L xs).trans ((kt_12_10 L xs).trans ((kt_12_11 L xs).trans ((kt_12_12 L xs).trans ((kt_12_13 L xs).trans ((kt_12_14 L xs).trans ((kt_12_15 L xs).trans (kt_12_16 L xs)))))))))))))))))
def k_41 (L : Nat) (xs : Nat → Int32) : aMem := setR (k_40 L xs) 0 0 1
def zr_41 : List (Nat × Nat × Nat) := (0, 0, 1) :: zr_37
theorem G_41 : Mk L xs 19 160 zr_41 zf_40 (k_41 L xs) := mk_setR (G_40 L xs)
theorem E_41 : setR (k_40 L xs) 0 0 1 = k_41 L xs := rfl
def k_42 (L : Nat) (xs : Nat → Int32) : aMem := newC (k_41 L xs) 2 7
theorem G_42 : Mk L xs 20 167 zr_41 zf_40 (k_42 L xs) := mk_new (G_41 L xs) (by decide +kernel) (by decide +kernel) (by decide +kernel)
theorem E_42 : newC (k_41 L xs) 2 7 = k_42 L xs := rfl
def k_43 (L : Nat) (xs : Nat → Int32) : aMem := newC (k_42 L xs) 12 10
theorem G_43 : Mk L xs 21 177 zr_41 zf_40 (k_43 L xs) := mk_new (G_42 L xs) (by decide +kernel) (by decide +kernel) (by decide +kernel)
theorem E_43 : newC (k_42 L xs) 12 10 = k_43 L xs := rfl
def k_44 (L : Nat) (xs : Nat → Int32) : aMem := setR (k_43 L xs) 19 0 20
def zr_44 : List (Nat × Nat × Nat) := (19, 0, 20) :: zr_41
theorem G_44 : Mk L xs 21 177 zr_44 zf_40 (k_44 L xs) := mk_setR (G_43 L xs)
theorem E_44 : setR (k_43 L xs) 19 0 20 = k_44 L xs := rfl
def k_45 (L : Nat) (xs : Nat → Int32) : aMem := newC (k_44 L xs) 0 4
theorem G_45 : Mk L xs 22 181 zr_44 zf_40 (k_45 L xs) := mk_new (G_44 L xs) (by decide +kernel) (by decide +kernel) (by decide +kernel)
theorem E_45 : newC (k_44 L xs) 0 4 = k_45 L xs := rfl
def k_46 (L : Nat) (xs : Nat → Int32) : aMem := newC (k_45 L xs) 10 20
theorem G_46 : Mk L xs 23 201 zr_44 zf_40 (k_46 L xs) := mk_new (G_45 L xs) (by decide +kernel) (by decide +kernel) (by decide +kernel)
theorem E_46 : newC (k_45 L xs) 10 20 = k_46 L xs := rfl
def k_47 (L : Nat) (xs : Nat → Int32) : aMem := setR (k_46 L xs) 21 0 22
def zr_47 : List (Nat × Nat × Nat) := (21, 0, 22) :: zr_44
theorem G_47 : Mk L xs 23 201 zr_47 zf_40 (k_47 L xs) := mk_setR (G_46 L xs)
theorem E_47 : setR (k_46 L xs) 21 0 22 = k_47 L xs := rfl
def k_48 (L : Nat) (xs : Nat → Int32) : aMem := newC (k_47 L xs) 10 20
theorem G_48 : Mk L xs 24 221 zr_47 zf_40 (k_48 L xs) := mk_new (G_47 L xs) (by decide +kernel) (by decide +kernel) (by decide +kernel)
theorem E_48 : newC (k_47 L xs) 10 20 = k_48 L xs := rfl
def k_49 (L : Nat) (xs : Nat → Int32) : aMem := setR (k_48 L xs) 21 1 23
def zr_49 : List (Nat × Nat × Nat) := (21, 1, 23) :: zr_47
theorem G_49 : Mk L xs 24 221 zr_49 zf_40 (k_49 L xs) := mk_setR (G_48 L xs)
theorem E_49 : setR (k_48 L xs) 21 1 23 = k_49 L xs := rfl
def k_50 (L : Nat) (xs : Nat → Int32) : aMem := newC (k_49 L xs) 10 20
theorem G_50 : Mk L xs 25 241 zr_49 zf_40 (k_50 L xs) := mk_new (G_49 L xs) (by decide +kernel) (by decide +kernel) (by decide +kernel)
theorem E_50 : newC (k_49 L xs) 10 20 = k_50 L xs := rfl
def k_51 (L : Nat) (xs : Nat → Int32) : aMem := setR (k_50 L xs) 21 2 24
def zr_51 : List (Nat × Nat × Nat) := (21, 2, 24) :: zr_49
theorem G_51 : Mk L xs 25 241 zr_51 zf_40 (k_51 L xs) := mk_setR (G_50 L xs)
theorem E_51 : setR (k_50 L xs) 21 2 24 = k_51 L xs := rfl
theorem kt_13_0 : Rn 98 0 (0, [.ref 21], [], k_45 L xs) = Rn 98 0 (12, [.ref 21], [], k_47 L xs) := by
  have n45 := (G_45 L xs).N
  have s45_21 : mS (k_45 L xs) 21 = (0, 4) := (G_45 L xs).S 21 (by decide)
  have n46 := (G_46 L xs).N
  have s46_21 : mS (k_46 L xs) 21 = (0, 4) := (G_46 L xs).S 21 (by decide)
  have s46_22 : mS (k_46 L xs) 22 = (10, 20) := (G_46 L xs).S 22 (by decide)
  have n47 := (G_47 L xs).N
  have s47_21 : mS (k_47 L xs) 21 = (0, 4) := (G_47 L xs).S 21 (by decide)
  have s47_22 : mS (k_47 L xs) 22 = (10, 20) := (G_47 L xs).S 22 (by decide)
  have r47_0 : mR (k_47 L xs) 21 0 = 22 := ((G_47 L xs).R 21 0).trans (by decide +kernel)
  refine (q_0_0 98 21 (k_45 L xs)).trans ?_
  try simp only [n45, s45_21, n46, s46_21, s46_22, n47, s47_21, s47_22, r47_0, E_46, E_47, ix_0, ix_1, ix_2, ix_3, ix_4, ix_5, ix_6, ix_7, ix_8, ix_9, ix_10, ix_14, ix_20, ix_24, ix_60, ix_96, ix_100, ix_120, ix_128, ix_2981, ix_3114, ix_4000]
  try rfl
theorem kt_13_1 : Rn 98 0 (12, [.ref 21], [], k_47 L xs) = Rn 98 0 (20, [.ref 21], [], k_49 L xs) := by
  have n47 := (G_47 L xs).N
  have s47_21 : mS (k_47 L xs) 21 = (0, 4) := (G_47 L xs).S 21 (by decide)
  have n48 := (G_48 L xs).N
  have s48_21 : mS (k_48 L xs) 21 = (0, 4) := (G_48 L xs).S 21 (by decide)
  have s48_23 : mS (k_48 L xs) 23 = (10, 20) := (G_48 L xs).S 23 (by decide)
  have n49 := (G_49 L xs).N
  have s49_21 : mS (k_49 L xs) 21 = (0, 4) := (G_49 L xs).S 21 (by decide)
  have s49_23 : mS (k_49 L xs) 23 = (10, 20) := (G_49 L xs).S 23 (by decide)
  have r49_1 : mR (k_49 L xs) 21 1 = 23 := ((G_49 L xs).R 21 1).trans (by decide +kernel)
  refine (q_0_12 98 21 (k_47 L xs)).trans ?_
  try simp only [n47, s47_21, n48, s48_21, s48_23, n49, s49_21, s49_23, r49_1, E_48, E_49, ix_0, ix_1, ix_2, ix_3, ix_4, ix_5, ix_6, ix_7, ix_8, ix_9, ix_10, ix_14, ix_20, ix_24, ix_60, ix_96, ix_100, ix_120, ix_128, ix_2981, ix_3114, ix_4000]
  try rfl
theorem kt_13_2 : Rn 98 0 (20, [.ref 21], [], k_49 L xs) = Rn 98 0 (28, [.ref 21], [], k_51 L xs) := by
  have n49 := (G_49 L xs).N
  have s49_21 : mS (k_49 L xs) 21 = (0, 4) := (G_49 L xs).S 21 (by decide)
  have n50 := (G_50 L xs).N
  have s50_21 : mS (k_50 L xs) 21 = (0, 4) := (G_50 L xs).S 21 (by decide)
  have s50_24 : mS (k_50 L xs) 24 = (10, 20) := (G_50 L xs).S 24 (by decide)
  have n51 := (G_51 L xs).N
  have s51_21 : mS (k_51 L xs) 21 = (0, 4) := (G_51 L xs).S 21 (by decide)
  have s51_24 : mS (k_51 L xs) 24 = (10, 20) := (G_51 L xs).S 24 (by decide)
  have r51_2 : mR (k_51 L xs) 21 2 = 24 := ((G_51 L xs).R 21 2).trans (by decide +kernel)
  refine (q_0_20 98 21 (k_49 L xs)).trans ?_
  try simp only [n49, s49_21, n50, s50_21, s50_24, n51, s51_21, s51_24, r51_2, E_50, E_51, ix_0, ix_1, ix_2, ix_3, ix_4, ix_5, ix_6, ix_7, ix_8, ix_9, ix_10, ix_14, ix_20, ix_24, ix_60, ix_96, ix_100, ix_120, ix_128, ix_2981, ix_3114, ix_4000]
  try rfl
theorem kt_13_3 : Rn 98 0 (28, [.ref 21], [], k_51 L xs) = some (none, k_51 L xs) := by
  have n51 := (G_51 L xs).N
  have s51_21 : mS (k_51 L xs) 21 = (0, 4) := (G_51 L xs).S 21 (by decide)
  refine (q_0_28 98 21 (k_51 L xs)).trans ?_
  try simp only [n51, s51_21, ix_0, ix_1, ix_2, ix_3, ix_4, ix_5, ix_6, ix_7, ix_8, ix_9, ix_10, ix_14, ix_20, ix_24, ix_60, ix_96, ix_100, ix_120, ix_128, ix_2981, ix_3114, ix_4000]
  try rfl
theorem kc_13 : cV 98 0 [.ref 21] (k_45 L xs) = some (k_51 L xs) := i_0 ((kt_13_0 L xs).trans ((kt_13_1 L xs).trans ((kt_13_2 L xs).trans (kt_13_3 L xs))))
def k_52 (L : Nat) (xs : Nat → Int32) : aMem := setR (k_51 L xs) 19 2 21
def zr_52 : List (Nat × Nat × Nat) := (19, 2, 21) :: zr_51
theorem G_52 : Mk L xs 25 241 zr_52 zf_40 (k_52 L xs) := mk_setR (G_51 L xs)
theorem E_52 : setR (k_51 L xs) 19 2 21 = k_52 L xs := rfl
def k_53 (L : Nat) (xs : Nat → Int32) : aMem := newC (k_52 L xs) 15 14
theorem G_53 : Mk L xs 26 255 zr_52 zf_40 (k_53 L xs) := mk_new (G_52 L xs) (by decide +kernel) (by decide +kernel) (by decide +kernel)
theorem E_53 : newC (k_52 L xs) 15 14 = k_53 L xs := rfl
def k_54 (L : Nat) (xs : Nat → Int32) : aMem := setR (k_53 L xs) 19 3 25
def zr_54 : List (Nat × Nat × Nat) := (19, 3, 25) :: zr_52
theorem G_54 : Mk L xs 26 255 zr_54 zf_40 (k_54 L xs) := mk_setR (G_53 L xs)
theorem E_54 : setR (k_53 L xs) 19 3 25 = k_54 L xs := rfl
def k_55 (L : Nat) (xs : Nat → Int32) : aMem := newC (k_54 L xs) 10 3
theorem G_55 : Mk L xs 27 258 zr_54 zf_40 (k_55 L xs) := mk_new (G_54 L xs) (by decide +kernel) (by decide +kernel) (by decide +kernel)
theorem E_55 : newC (k_54 L xs) 10 3 = k_55 L xs := rfl
def k_56 (L : Nat) (xs : Nat → Int32) : aMem := setR (k_55 L xs) 19 5 26
def zr_56 : List (Nat × Nat × Nat) := (19, 5, 26) :: zr_54
theorem G_56 : Mk L xs 27 258 zr_56 zf_40 (k_56 L xs) := mk_setR (G_55 L xs)
theorem E_56 : setR (k_55 L xs) 19 5 26 = k_56 L xs := rfl
def k_57 (L : Nat) (xs : Nat → Int32) : aMem := setF (k_56 L xs) 19 6 1
def zf_57 : List (Nat × Nat × Int32) := (19, 6, 1) :: zf_40
theorem G_57 : Mk L xs 27 258 zr_56 zf_57 (k_57 L xs) := mk_setF (G_56 L xs) (by decide)
theorem E_57 : setF (k_56 L xs) 19 6 1 = k_57 L xs := rfl
def k_58 (L : Nat) (xs : Nat → Int32) : aMem := newC (k_57 L xs) 1 5
theorem G_58 : Mk L xs 28 263 zr_56 zf_57 (k_58 L xs) := mk_new (G_57 L xs) (by decide +kernel) (by decide +kernel) (by decide +kernel)
theorem E_58 : newC (k_57 L xs) 1 5 = k_58 L xs := rfl
theorem kt_14_0 : Rn 98 5 (0, [.ref 27], [], k_58 L xs) = some (none, k_58 L xs) := by
  have n58 := (G_58 L xs).N
  have s58_27 : mS (k_58 L xs) 27 = (1, 5) := (G_58 L xs).S 27 (by decide)
  refine (q_5_0 98 27 (k_58 L xs)).trans ?_
  try simp only [n58, s58_27, ix_0, ix_1, ix_2, ix_3, ix_4, ix_5, ix_6, ix_7, ix_8, ix_9, ix_10, ix_14, ix_20, ix_24, ix_60, ix_96, ix_100, ix_120, ix_128, ix_2981, ix_3114, ix_4000]
  try rfl
theorem kc_14 : cV 98 5 [.ref 27] (k_58 L xs) = some (k_58 L xs) := i_5 (kt_14_0 L xs)
def k_59 (L : Nat) (xs : Nat → Int32) : aMem := setR (k_58 L xs) 20 0 27
def zr_59 : List (Nat × Nat × Nat) := (20, 0, 27) :: zr_56
theorem G_59 : Mk L xs 28 263 zr_59 zf_57 (k_59 L xs) := mk_setR (G_58 L xs)
theorem E_59 : setR (k_58 L xs) 20 0 27 = k_59 L xs := rfl
def k_60 (L : Nat) (xs : Nat → Int32) : aMem := newC (k_59 L xs) 1 5
theorem G_60 : Mk L xs 29 268 zr_59 zf_57 (k_60 L xs) := mk_new (G_59 L xs) (by decide +kernel) (by decide +kernel) (by decide +kernel)
theorem E_60 : newC (k_59 L xs) 1 5 = k_60 L xs := rfl
theorem kt_15_0 : Rn 98 5 (0, [.ref 28], [], k_60 L xs) = some (none, k_60 L xs) := by
  have n60 := (G_60 L xs).N
  have s60_28 : mS (k_60 L xs) 28 = (1, 5) := (G_60 L xs).S 28 (by decide)
  refine (q_5_0 98 28 (k_60 L xs)).trans ?_
  try simp only [n60, s60_28, ix_0, ix_1, ix_2, ix_3, ix_4, ix_5, ix_6, ix_7, ix_8, ix_9, ix_10, ix_14, ix_20, ix_24, ix_60, ix_96, ix_100, ix_120, ix_128, ix_2981, ix_3114, ix_4000]
  try rfl
theorem kc_15 : cV 98 5 [.ref 28] (k_60 L xs) = some (k_60 L xs) := i_5 (kt_15_0 L xs)
def k_61 (L : Nat) (xs : Nat → Int32) : aMem := setR (k_60 L xs) 20 1 28
def zr_61 : List (Nat × Nat × Nat) := (20, 1, 28) :: zr_59
theorem G_61 : Mk L xs 29 268 zr_61 zf_57 (k_61 L xs) := mk_setR (G_60 L xs)
theorem E_61 : setR (k_60 L xs) 20 1 28 = k_61 L xs := rfl
def k_62 (L : Nat) (xs : Nat → Int32) : aMem := newC (k_61 L xs) 1 5
theorem G_62 : Mk L xs 30 273 zr_61 zf_57 (k_62 L xs) := mk_new (G_61 L xs) (by decide +kernel) (by decide +kernel) (by decide +kernel)
theorem E_62 : newC (k_61 L xs) 1 5 = k_62 L xs := rfl
theorem kt_16_0 : Rn 98 5 (0, [.ref 29], [], k_62 L xs) = some (none, k_62 L xs) := by
  have n62 := (G_62 L xs).N
  have s62_29 : mS (k_62 L xs) 29 = (1, 5) := (G_62 L xs).S 29 (by decide)
  refine (q_5_0 98 29 (k_62 L xs)).trans ?_
  try simp only [n62, s62_29, ix_0, ix_1, ix_2, ix_3, ix_4, ix_5, ix_6, ix_7, ix_8, ix_9, ix_10, ix_14, ix_20, ix_24, ix_60, ix_96, ix_100, ix_120, ix_128, ix_2981, ix_3114, ix_4000]
  try rfl
theorem kc_16 : cV 98 5 [.ref 29] (k_62 L xs) = some (k_62 L xs) := i_5 (kt_16_0 L xs)
def k_63 (L : Nat) (xs : Nat → Int32) : aMem := setR (k_62 L xs) 20 2 29
def zr_63 : List (Nat × Nat × Nat) := (20, 2, 29) :: zr_61
theorem G_63 : Mk L xs 30 273 zr_63 zf_57 (k_63 L xs) := mk_setR (G_62 L xs)
theorem E_63 : setR (k_62 L xs) 20 2 29 = k_63 L xs := rfl
def k_64 (L : Nat) (xs : Nat → Int32) : aMem := newC (k_63 L xs) 1 5
theorem G_64 : Mk L xs 31 278 zr_63 zf_57 (k_64 L xs) := mk_new (G_63 L xs) (by decide +kernel) (by decide +kernel) (by decide +kernel)
theorem E_64 : newC (k_63 L xs) 1 5 = k_64 L xs := rfl
theorem kt_17_0 : Rn 98 5 (0, [.ref 30], [], k_64 L xs) = some (none, k_64 L xs) := by
  have n64 := (G_64 L xs).N
  have s64_30 : mS (k_64 L xs) 30 = (1, 5) := (G_64 L xs).S 30 (by decide)
  refine (q_5_0 98 30 (k_64 L xs)).trans ?_
  try simp only [n64, s64_30, ix_0, ix_1, ix_2, ix_3, ix_4, ix_5, ix_6, ix_7, ix_8, ix_9, ix_10, ix_14, ix_20, ix_24, ix_60, ix_96, ix_100, ix_120, ix_128, ix_2981, ix_3114, ix_4000]
  try rfl
theorem kc_17 : cV 98 5 [.ref 30] (k_64 L xs) = some (k_64 L xs) := i_5 (kt_17_0 L xs)
def k_65 (L : Nat) (xs : Nat → Int32) : aMem := setR (k_64 L xs) 20 3 30
def zr_65 : List (Nat × Nat × Nat) := (20, 3, 30) :: zr_63
theorem G_65 : Mk L xs 31 278 zr_65 zf_57 (k_65 L xs) := mk_setR (G_64 L xs)
theorem E_65 : setR (k_64 L xs) 20 3 30 = k_65 L xs := rfl
def k_66 (L : Nat) (xs : Nat → Int32) : aMem := newC (k_65 L xs) 1 5
theorem G_66 : Mk L xs 32 283 zr_65 zf_57 (k_66 L xs) := mk_new (G_65 L xs) (by decide +kernel) (by decide +kernel) (by decide +kernel)
theorem E_66 : newC (k_65 L xs) 1 5 = k_66 L xs := rfl
theorem kt_18_0 : Rn 98 5 (0, [.ref 31], [], k_66 L xs) = some (none, k_66 L xs) := by
  have n66 := (G_66 L xs).N
  have s66_31 : mS (k_66 L xs) 31 = (1, 5) := (G_66 L xs).S 31 (by decide)
  refine (q_5_0 98 31 (k_66 L xs)).trans ?_
  try simp only [n66, s66_31, ix_0, ix_1, ix_2, ix_3, ix_4, ix_5, ix_6, ix_7, ix_8, ix_9, ix_10, ix_14, ix_20, ix_24, ix_60, ix_96, ix_100, ix_120, ix_128, ix_2981, ix_3114, ix_4000]
  try rfl
theorem kc_18 : cV 98 5 [.ref 31] (k_66 L xs) = some (k_66 L xs) := i_5 (kt_18_0 L xs)
def k_67 (L : Nat) (xs : Nat → Int32) : aMem := setR (k_66 L xs) 20 4 31
def zr_67 : List (Nat × Nat × Nat) := (20, 4, 31) :: zr_65
theorem G_67 : Mk L xs 32 283 zr_67 zf_57 (k_67 L xs) := mk_setR (G_66 L xs)
theorem E_67 : setR (k_66 L xs) 20 4 31 = k_67 L xs := rfl
def k_68 (L : Nat) (xs : Nat → Int32) : aMem := newC (k_67 L xs) 1 5
theorem G_68 : Mk L xs 33 288 zr_67 zf_57 (k_68 L xs) := mk_new (G_67 L xs) (by decide +kernel) (by decide +kernel) (by decide +kernel)
theorem E_68 : newC (k_67 L xs) 1 5 = k_68 L xs := rfl
theorem kt_19_0 : Rn 98 5 (0, [.ref 32], [], k_68 L xs) = some (none, k_68 L xs) := by
  have n68 := (G_68 L xs).N
  have s68_32 : mS (k_68 L xs) 32 = (1, 5) := (G_68 L xs).S 32 (by decide)
  refine (q_5_0 98 32 (k_68 L xs)).trans ?_
  try simp only [n68, s68_32, ix_0, ix_1, ix_2, ix_3, ix_4, ix_5, ix_6, ix_7, ix_8, ix_9, ix_10, ix_14, ix_20, ix_24, ix_60, ix_96, ix_100, ix_120, ix_128, ix_2981, ix_3114, ix_4000]
  try rfl
theorem kc_19 : cV 98 5 [.ref 32] (k_68 L xs) = some (k_68 L xs) := i_5 (kt_19_0 L xs)
def k_69 (L : Nat) (xs : Nat → Int32) : aMem := setR (k_68 L xs) 20 5 32
def zr_69 : List (Nat × Nat × Nat) := (20, 5, 32) :: zr_67
theorem G_69 : Mk L xs 33 288 zr_69 zf_57 (k_69 L xs) := mk_setR (G_68 L xs)
theorem E_69 : setR (k_68 L xs) 20 5 32 = k_69 L xs := rfl
def k_70 (L : Nat) (xs : Nat → Int32) : aMem := newC (k_69 L xs) 1 5
theorem G_70 : Mk L xs 34 293 zr_69 zf_57 (k_70 L xs) := mk_new (G_69 L xs) (by decide +kernel) (by decide +kernel) (by decide +kernel)
theorem E_70 : newC (k_69 L xs) 1 5 = k_70 L xs := rfl
theorem kt_20_0 : Rn 98 5 (0, [.ref 33], [], k_70 L xs) = some (none, k_70 L xs) := by
  have n70 := (G_70 L xs).N
  have s70_33 : mS (k_70 L xs) 33 = (1, 5) := (G_70 L xs).S 33 (by decide)
  refine (q_5_0 98 33 (k_70 L xs)).trans ?_
  try simp only [n70, s70_33, ix_0, ix_1, ix_2, ix_3, ix_4, ix_5, ix_6, ix_7, ix_8, ix_9, ix_10, ix_14, ix_20, ix_24, ix_60, ix_96, ix_100, ix_120, ix_128, ix_2981, ix_3114, ix_4000]
  try rfl
theorem kc_20 : cV 98 5 [.ref 33] (k_70 L xs) = some (k_70 L xs) := i_5 (kt_20_0 L xs)
def k_71 (L : Nat) (xs : Nat → Int32) : aMem := setR (k_70 L xs) 20 6 33
def zr_71 : List (Nat × Nat × Nat) := (20, 6, 33) :: zr_69
theorem G_71 : Mk L xs 34 293 zr_71 zf_57 (k_71 L xs) := mk_setR (G_70 L xs)
theorem E_71 : setR (k_70 L xs) 20 6 33 = k_71 L xs := rfl
def k_72 (L : Nat) (xs : Nat → Int32) : aMem := newC (k_71 L xs) 1 5
theorem G_72 : Mk L xs 35 298 zr_71 zf_57 (k_72 L xs) := mk_new (G_71 L xs) (by decide +kernel) (by decide +kernel) (by decide +kernel)
theorem E_72 : newC (k_71 L xs) 1 5 = k_72 L xs := rfl
theorem kt_21_0 : Rn 98 5 (0, [.ref 34], [], k_72 L xs) = some (none, k_72 L xs) := by
  have n72 := (G_72 L xs).N
  have s72_34 : mS (k_72 L xs) 34 = (1, 5) := (G_72 L xs).S 34 (by decide)
  refine (q_5_0 98 34 (k_72 L xs)).trans ?_
  try simp only [n72, s72_34, ix_0, ix_1, ix_2, ix_3, ix_4, ix_5, ix_6, ix_7, ix_8, ix_9, ix_10, ix_14, ix_20, ix_24, ix_60, ix_96, ix_100, ix_120, ix_128, ix_2981, ix_3114, ix_4000]
  try rfl
theorem kc_21 : cV 98 5 [.ref 34] (k_72 L xs) = some (k_72 L xs) := i_5 (kt_21_0 L xs)
def k_73 (L : Nat) (xs : Nat → Int32) : aMem := setR (k_72 L xs) 20 7 34
def zr_73 : List (Nat × Nat × Nat) := (20, 7, 34) :: zr_71
theorem G_73 : Mk L xs 35 298 zr_73 zf_57 (k_73 L xs) := mk_setR (G_72 L xs)
theorem E_73 : setR (k_72 L xs) 20 7 34 = k_73 L xs := rfl
def k_74 (L : Nat) (xs : Nat → Int32) : aMem := newC (k_73 L xs) 1 5
theorem G_74 : Mk L xs 36 303 zr_73 zf_57 (k_74 L xs) := mk_new (G_73 L xs) (by decide +kernel) (by decide +kernel) (by decide +kernel)
theorem E_74 : newC (k_73 L xs) 1 5 = k_74 L xs := rfl
theorem kt_22_0 : Rn 98 5 (0, [.ref 35], [], k_74 L xs) = some (none, k_74 L xs) := by
  have n74 := (G_74 L xs).N
  have s74_35 : mS (k_74 L xs) 35 = (1, 5) := (G_74 L xs).S 35 (by decide)
  refine (q_5_0 98 35 (k_74 L xs)).trans ?_
  try simp only [n74, s74_35, ix_0, ix_1, ix_2, ix_3, ix_4, ix_5, ix_6, ix_7, ix_8, ix_9, ix_10, ix_14, ix_20, ix_24, ix_60, ix_96, ix_100, ix_120, ix_128, ix_2981, ix_3114, ix_4000]
  try rfl
theorem kc_22 : cV 98 5 [.ref 35] (k_74 L xs) = some (k_74 L xs) := i_5 (kt_22_0 L xs)
def k_75 (L : Nat) (xs : Nat → Int32) : aMem := setR (k_74 L xs) 20 8 35
def zr_75 : List (Nat × Nat × Nat) := (20, 8, 35) :: zr_73
theorem G_75 : Mk L xs 36 303 zr_75 zf_57 (k_75 L xs) := mk_setR (G_74 L xs)
theorem E_75 : setR (k_74 L xs) 20 8 35 = k_75 L xs := rfl
def k_76 (L : Nat) (xs : Nat → Int32) : aMem := newC (k_75 L xs) 1 5
theorem G_76 : Mk L xs 37 308 zr_75 zf_57 (k_76 L xs) := mk_new (G_75 L xs) (by decide +kernel) (by decide +kernel) (by decide +kernel)
theorem E_76 : newC (k_75 L xs) 1 5 = k_76 L xs := rfl
theorem kt_23_0 : Rn 98 5 (0, [.ref 36], [], k_76 L xs) = some (none, k_76 L xs) := by
  have n76 := (G_76 L xs).N
  have s76_36 : mS (k_76 L xs) 36 = (1, 5) := (G_76 L xs).S 36 (by decide)
  refine (q_5_0 98 36 (k_76 L xs)).trans ?_
  try simp only [n76, s76_36, ix_0, ix_1, ix_2, ix_3, ix_4, ix_5, ix_6, ix_7, ix_8, ix_9, ix_10, ix_14, ix_20, ix_24, ix_60, ix_96, ix_100, ix_120, ix_128, ix_2981, ix_3114, ix_4000]
  try rfl
theorem kc_23 : cV 98 5 [.ref 36] (k_76 L xs) = some (k_76 L xs) := i_5 (kt_23_0 L xs)
def k_77 (L : Nat) (xs : Nat → Int32) : aMem := setR (k_76 L xs) 20 9 36
def zr_77 : List (Nat × Nat × Nat) := (20, 9, 36) :: zr_75
theorem G_77 : Mk L xs 37 308 zr_77 zf_57 (k_77 L xs) := mk_setR (G_76 L xs)
theorem E_77 : setR (k_76 L xs) 20 9 36 = k_77 L xs := rfl
def k_78 (L : Nat) (xs : Nat → Int32) : aMem := setF (k_77 L xs) 26 0 (-1)
def zf_78 : List (Nat × Nat × Int32) := (26, 0, (-1)) :: zf_57
theorem G_78 : Mk L xs 37 308 zr_77 zf_78 (k_78 L xs) := mk_setF (G_77 L xs) (by decide)
theorem E_78 : setF (k_77 L xs) 26 0 (-1) = k_78 L xs := rfl
def k_79 (L : Nat) (xs : Nat → Int32) : aMem := setF (k_78 L xs) 26 1 (-1)
def zf_79 : List (Nat × Nat × Int32) := (26, 1, (-1)) :: zf_78
theorem G_79 : Mk L xs 37 308 zr_77 zf_79 (k_79 L xs) := mk_setF (G_78 L xs) (by decide)
theorem E_79 : setF (k_78 L xs) 26 1 (-1) = k_79 L xs := rfl
def k_80 (L : Nat) (xs : Nat → Int32) : aMem := setF (k_79 L xs) 26 2 (-1)
def zf_80 : List (Nat × Nat × Int32) := (26, 2, (-1)) :: zf_79
theorem G_80 : Mk L xs 37 308 zr_77 zf_80 (k_80 L xs) := mk_setF (G_79 L xs) (by decide)
theorem E_80 : setF (k_79 L xs) 26 2 (-1) = k_80 L xs := rfl
theorem kt_24_0 : Rn 98 231 (0, [.ref 26, .int (-1), un, un], [], k_77 L xs) = Rn 98 231 (5, [.ref 26, .int (-1), .int 0, .int 3], [], k_77 L xs) := by
  have n77 := (G_77 L xs).N
  have s77_26 : mS (k_77 L xs) 26 = (10, 3) := (G_77 L xs).S 26 (by decide)
  refine (q_231_0 98 26 (-1) (k_77 L xs)).trans ?_
  try simp only [n77, s77_26, Option.bind_some, ix_0, ix_1, ix_2, ix_3, ix_4, ix_5, ix_6, ix_7, ix_8, ix_9, ix_10, ix_14, ix_20, ix_24, ix_60, ix_96, ix_100, ix_120, ix_128, ix_2981, ix_3114, ix_4000]
  try rfl
theorem kt_24_1 : Rn 98 231 (5, [.ref 26, .int (-1), .int 0, .int 3], [], k_77 L xs) = Rn 98 231 (5, [.ref 26, .int (-1), .int 1, .int 3], [], k_78 L xs) := by
  have n77 := (G_77 L xs).N
  have s77_26 : mS (k_77 L xs) 26 = (10, 3) := (G_77 L xs).S 26 (by decide)
  have n78 := (G_78 L xs).N
  have s78_26 : mS (k_78 L xs) 26 = (10, 3) := (G_78 L xs).S 26 (by decide)
  refine (q_231_5 98 26 (-1) (0) (3) (k_77 L xs)).trans ?_
  try simp only [n77, s77_26, n78, s78_26, E_78, Option.bind_some, ix_0, ix_1, ix_2, ix_3, ix_4, ix_5, ix_6, ix_7, ix_8, ix_9, ix_10, ix_14, ix_20, ix_24, ix_60, ix_96, ix_100, ix_120, ix_128, ix_2981, ix_3114, ix_4000]
  try rfl
theorem kt_24_2 : Rn 98 231 (5, [.ref 26, .int (-1), .int 1, .int 3], [], k_78 L xs) = Rn 98 231 (5, [.ref 26, .int (-1), .int 2, .int 3], [], k_79 L xs) := by
  have n78 := (G_78 L xs).N
  have s78_26 : mS (k_78 L xs) 26 = (10, 3) := (G_78 L xs).S 26 (by decide)
  have n79 := (G_79 L xs).N
  have s79_26 : mS (k_79 L xs) 26 = (10, 3) := (G_79 L xs).S 26 (by decide)
  refine (q_231_5 98 26 (-1) (1) (3) (k_78 L xs)).trans ?_
  try simp only [n78, s78_26, n79, s79_26, E_79, Option.bind_some, ix_0, ix_1, ix_2, ix_3, ix_4, ix_5, ix_6, ix_7, ix_8, ix_9, ix_10, ix_14, ix_20, ix_24, ix_60, ix_96, ix_100, ix_120, ix_128, ix_2981, ix_3114, ix_4000]
  try rfl
theorem kt_24_3 : Rn 98 231 (5, [.ref 26, .int (-1), .int 2, .int 3], [], k_79 L xs) = Rn 98 231 (5, [.ref 26, .int (-1), .int 3, .int 3], [], k_80 L xs) := by
  have n79 := (G_79 L xs).N
  have s79_26 : mS (k_79 L xs) 26 = (10, 3) := (G_79 L xs).S 26 (by decide)
  have n80 := (G_80 L xs).N
  have s80_26 : mS (k_80 L xs) 26 = (10, 3) := (G_80 L xs).S 26 (by decide)
  refine (q_231_5 98 26 (-1) (2) (3) (k_79 L xs)).trans ?_
  try simp only [n79, s79_26, n80, s80_26, E_80, Option.bind_some, ix_0, ix_1, ix_2, ix_3, ix_4, ix_5, ix_6, ix_7, ix_8, ix_9, ix_10, ix_14, ix_20, ix_24, ix_60, ix_96, ix_100, ix_120, ix_128, ix_2981, ix_3114, ix_4000]
  try rfl
theorem kt_24_4 : Rn 98 231 (5, [.ref 26, .int (-1), .int 3, .int 3], [], k_80 L xs) = some (none, k_80 L xs) := by
  have n80 := (G_80 L xs).N
  have s80_26 : mS (k_80 L xs) 26 = (10, 3) := (G_80 L xs).S 26 (by decide)
  refine (q_231_5 98 26 (-1) (3) (3) (k_80 L xs)).trans ?_
  try simp only [n80, s80_26, Option.bind_some, ix_0, ix_1, ix_2, ix_3, ix_4, ix_5, ix_6, ix_7, ix_8, ix_9, ix_10, ix_14, ix_20, ix_24, ix_60, ix_96, ix_100, ix_120, ix_128, ix_2981, ix_3114, ix_4000]
  try rfl
theorem kc_24 : cV 98 231 [.ref 26, .int (-1)] (k_77 L xs) = some (k_80 L xs) := i_231 ((kt_24_0 L xs).trans ((kt_24_1 L xs).trans ((kt_24_2 L xs).trans ((kt_24_3 L xs).trans (kt_24_4 L xs)))))
theorem kt_25_0 : Rn 99 11 (0, [.ref 19, un], [], k_42 L xs) = Rn 99 11 (13, [.ref 19, un], [], k_44 L xs) := by
  have n42 := (G_42 L xs).N
  have s42_19 : mS (k_42 L xs) 19 = (2, 7) := (G_42 L xs).S 19 (by decide)
  have n43 := (G_43 L xs).N
  have s43_19 : mS (k_43 L xs) 19 = (2, 7) := (G_43 L xs).S 19 (by decide)
  have s43_20 : mS (k_43 L xs) 20 = (12, 10) := (G_43 L xs).S 20 (by decide)
  have n44 := (G_44 L xs).N
  have s44_19 : mS (k_44 L xs) 19 = (2, 7) := (G_44 L xs).S 19 (by decide)
  have s44_20 : mS (k_44 L xs) 20 = (12, 10) := (G_44 L xs).S 20 (by decide)
  have r44_0 : mR (k_44 L xs) 19 0 = 20 := ((G_44 L xs).R 19 0).trans (by decide +kernel)
  refine (q_11_0 98 19 (k_42 L xs)).trans ?_
  try simp only [n42, s42_19, n43, s43_19, s43_20, n44, s44_19, s44_20, r44_0, E_43, E_44, ix_0, ix_1, ix_2, ix_3, ix_4, ix_5, ix_6, ix_7, ix_8, ix_9, ix_10, ix_14, ix_20, ix_24, ix_60, ix_96, ix_100, ix_120, ix_128, ix_2981, ix_3114, ix_4000]
  try rfl
theorem kt_25_1 : Rn 99 11 (13, [.ref 19, un], [], k_44 L xs) = Rn 99 11 (24, [.ref 19, un], [], k_52 L xs) := by
  have n44 := (G_44 L xs).N
  have s44_19 : mS (k_44 L xs) 19 = (2, 7) := (G_44 L xs).S 19 (by decide)
  have n45 := (G_45 L xs).N
  have s45_19 : mS (k_45 L xs) 19 = (2, 7) := (G_45 L xs).S 19 (by decide)
  have s45_21 : mS (k_45 L xs) 21 = (0, 4) := (G_45 L xs).S 21 (by decide)
  have n51 := (G_51 L xs).N
  have s51_19 : mS (k_51 L xs) 19 = (2, 7) := (G_51 L xs).S 19 (by decide)
  have s51_21 : mS (k_51 L xs) 21 = (0, 4) := (G_51 L xs).S 21 (by decide)
  have n52 := (G_52 L xs).N
  have s52_19 : mS (k_52 L xs) 19 = (2, 7) := (G_52 L xs).S 19 (by decide)
  have s52_21 : mS (k_52 L xs) 21 = (0, 4) := (G_52 L xs).S 21 (by decide)
  have r52_2 : mR (k_52 L xs) 19 2 = 21 := ((G_52 L xs).R 19 2).trans (by decide +kernel)
  refine (q_11_13 98 19 un (k_44 L xs)).trans ?_
  try simp only [n44, s44_19, n45, s45_19, s45_21, n51, s51_19, s51_21, n52, s52_19, s52_21, r52_2, E_45, E_52, kc_13, Option.bind_some, ix_0, ix_1, ix_2, ix_3, ix_4, ix_5, ix_6, ix_7, ix_8, ix_9, ix_10, ix_14, ix_20, ix_24, ix_60, ix_96, ix_100, ix_120, ix_128, ix_2981, ix_3114, ix_4000]
  try rfl
theorem kt_25_2 : Rn 99 11 (24, [.ref 19, un], [], k_52 L xs) = Rn 99 11 (33, [.ref 19, un], [], k_54 L xs) := by
  have n52 := (G_52 L xs).N
  have s52_19 : mS (k_52 L xs) 19 = (2, 7) := (G_52 L xs).S 19 (by decide)
  have n53 := (G_53 L xs).N
  have s53_19 : mS (k_53 L xs) 19 = (2, 7) := (G_53 L xs).S 19 (by decide)
  have s53_25 : mS (k_53 L xs) 25 = (15, 14) := (G_53 L xs).S 25 (by decide)
  have n54 := (G_54 L xs).N
  have s54_19 : mS (k_54 L xs) 19 = (2, 7) := (G_54 L xs).S 19 (by decide)
  have s54_25 : mS (k_54 L xs) 25 = (15, 14) := (G_54 L xs).S 25 (by decide)
  have r54_3 : mR (k_54 L xs) 19 3 = 25 := ((G_54 L xs).R 19 3).trans (by decide +kernel)
  refine (q_11_24 98 19 un (k_52 L xs)).trans ?_
  try simp only [n52, s52_19, n53, s53_19, s53_25, n54, s54_19, s54_25, r54_3, E_53, E_54, ix_0, ix_1, ix_2, ix_3, ix_4, ix_5, ix_6, ix_7, ix_8, ix_9, ix_10, ix_14, ix_20, ix_24, ix_60, ix_96, ix_100, ix_120, ix_128, ix_2981, ix_3114, ix_4000]
  try rfl
theorem kt_25_3 : Rn 99 11 (33, [.ref 19, un], [], k_54 L xs) = Rn 99 11 (40, [.ref 19, un], [], k_56 L xs) := by
  have n54 := (G_54 L xs).N
  have s54_19 : mS (k_54 L xs) 19 = (2, 7) := (G_54 L xs).S 19 (by decide)
  have n55 := (G_55 L xs).N
  have s55_19 : mS (k_55 L xs) 19 = (2, 7) := (G_55 L xs).S 19 (by decide)
  have s55_26 : mS (k_55 L xs) 26 = (10, 3) := (G_55 L xs).S 26 (by decide)
  have n56 := (G_56 L xs).N
  have s56_19 : mS (k_56 L xs) 19 = (2, 7) := (G_56 L xs).S 19 (by decide)
  have s56_26 : mS (k_56 L xs) 26 = (10, 3) := (G_56 L xs).S 26 (by decide)
  have r56_5 : mR (k_56 L xs) 19 5 = 26 := ((G_56 L xs).R 19 5).trans (by decide +kernel)
  refine (q_11_33 98 19 un (k_54 L xs)).trans ?_
  try simp only [n54, s54_19, n55, s55_19, s55_26, n56, s56_19, s56_26, r56_5, E_55, E_56, ix_0, ix_1, ix_2, ix_3, ix_4, ix_5, ix_6, ix_7, ix_8, ix_9, ix_10, ix_14, ix_20, ix_24, ix_60, ix_96, ix_100, ix_120, ix_128, ix_2981, ix_3114, ix_4000]
  try rfl
theorem kt_25_4 : Rn 99 11 (40, [.ref 19, un], [], k_56 L xs) = Rn 99 11 (45, [.ref 19, un], [], k_57 L xs) := by
  have n56 := (G_56 L xs).N
  have s56_19 : mS (k_56 L xs) 19 = (2, 7) := (G_56 L xs).S 19 (by decide)
  have r56_5 : mR (k_56 L xs) 19 5 = 26 := ((G_56 L xs).R 19 5).trans (by decide +kernel)
  have n57 := (G_57 L xs).N
  have s57_19 : mS (k_57 L xs) 19 = (2, 7) := (G_57 L xs).S 19 (by decide)
  have r57_5 : mR (k_57 L xs) 19 5 = 26 := ((G_57 L xs).R 19 5).trans (by decide +kernel)
  refine (q_11_40 98 19 un (k_56 L xs)).trans ?_
  try simp only [n56, s56_19, r56_5, n57, s57_19, r57_5, E_57, ix_0, ix_1, ix_2, ix_3, ix_4, ix_5, ix_6, ix_7, ix_8, ix_9, ix_10, ix_14, ix_20, ix_24, ix_60, ix_96, ix_100, ix_120, ix_128, ix_2981, ix_3114, ix_4000]
  try rfl
theorem kt_25_5 : Rn 99 11 (45, [.ref 19, un], [], k_57 L xs) = Rn 99 11 (47, [.ref 19, .int 0], [], k_57 L xs) := by
  have n57 := (G_57 L xs).N
  have s57_19 : mS (k_57 L xs) 19 = (2, 7) := (G_57 L xs).S 19 (by decide)
  have r57_5 : mR (k_57 L xs) 19 5 = 26 := ((G_57 L xs).R 19 5).trans (by decide +kernel)
  refine (q_11_45 98 19 un (k_57 L xs)).trans ?_
  try simp only [n57, s57_19, r57_5, ix_0, ix_1, ix_2, ix_3, ix_4, ix_5, ix_6, ix_7, ix_8, ix_9, ix_10, ix_14, ix_20, ix_24, ix_60, ix_96, ix_100, ix_120, ix_128, ix_2981, ix_3114, ix_4000]
  try rfl
theorem kt_25_6 : Rn 99 11 (47, [.ref 19, .int 0], [], k_57 L xs) = Rn 99 11 (47, [.ref 19, .int 1], [], k_59 L xs) := by
  have n57 := (G_57 L xs).N
  have s57_19 : mS (k_57 L xs) 19 = (2, 7) := (G_57 L xs).S 19 (by decide)
  have s57_20 : mS (k_57 L xs) 20 = (12, 10) := (G_57 L xs).S 20 (by decide)
  have r57_0 : mR (k_57 L xs) 19 0 = 20 := ((G_57 L xs).R 19 0).trans (by decide +kernel)
  have r57_5 : mR (k_57 L xs) 19 5 = 26 := ((G_57 L xs).R 19 5).trans (by decide +kernel)
  have n58 := (G_58 L xs).N
  have s58_19 : mS (k_58 L xs) 19 = (2, 7) := (G_58 L xs).S 19 (by decide)
  have s58_20 : mS (k_58 L xs) 20 = (12, 10) := (G_58 L xs).S 20 (by decide)
  have s58_27 : mS (k_58 L xs) 27 = (1, 5) := (G_58 L xs).S 27 (by decide)
  have r58_0 : mR (k_58 L xs) 19 0 = 20 := ((G_58 L xs).R 19 0).trans (by decide +kernel)
  have r58_5 : mR (k_58 L xs) 19 5 = 26 := ((G_58 L xs).R 19 5).trans (by decide +kernel)
  have n59 := (G_59 L xs).N
  have s59_19 : mS (k_59 L xs) 19 = (2, 7) := (G_59 L xs).S 19 (by decide)
  have s59_20 : mS (k_59 L xs) 20 = (12, 10) := (G_59 L xs).S 20 (by decide)
  have s59_27 : mS (k_59 L xs) 27 = (1, 5) := (G_59 L xs).S 27 (by decide)
  have r59_0 : mR (k_59 L xs) 19 0 = 20 := ((G_59 L xs).R 19 0).trans (by decide +kernel)
  have r59_5 : mR (k_59 L xs) 19 5 = 26 := ((G_59 L xs).R 19 5).trans (by decide +kernel)
  refine (q_11_47 98 19 (0) (k_57 L xs)).trans ?_
  try simp only [n57, s57_19, s57_20, r57_0, r57_5, n58, s58_19, s58_20, s58_27, r58_0, r58_5, n59, s59_19, s59_20, s59_27, r59_0, r59_5, E_58, E_59, kc_14, Option.bind_some, ix_0, ix_1, ix_2, ix_3, ix_4, ix_5, ix_6, ix_7, ix_8, ix_9, ix_10, ix_14, ix_20, ix_24, ix_60, ix_96, ix_100, ix_120, ix_128, ix_2981, ix_3114, ix_4000]
  try rfl
theorem kt_25_7 : Rn 99 11 (47, [.ref 19, .int 1], [], k_59 L xs) = Rn 99 11 (47, [.ref 19, .int 2], [], k_61 L xs) := by
  have n59 := (G_59 L xs).N
  have s59_19 : mS (k_59 L xs) 19 = (2, 7) := (G_59 L xs).S 19 (by decide)
  have s59_20 : mS (k_59 L xs) 20 = (12, 10) := (G_59 L xs).S 20 (by decide)
  have r59_0 : mR (k_59 L xs) 19 0 = 20 := ((G_59 L xs).R 19 0).trans (by decide +kernel)
  have r59_5 : mR (k_59 L xs) 19 5 = 26 := ((G_59 L xs).R 19 5).trans (by decide +kernel)
  have n60 := (G_60 L xs).N
  have s60_19 : mS (k_60 L xs) 19 = (2, 7) := (G_60 L xs).S 19 (by decide)
  have s60_20 : mS (k_60 L xs) 20 = (12, 10) := (G_60 L xs).S 20 (by decide)
  have s60_28 : mS (k_60 L xs) 28 = (1, 5) := (G_60 L xs).S 28 (by decide)
  have r60_0 : mR (k_60 L xs) 19 0 = 20 := ((G_60 L xs).R 19 0).trans (by decide +kernel)
  have r60_5 : mR (k_60 L xs) 19 5 = 26 := ((G_60 L xs).R 19 5).trans (by decide +kernel)
  have n61 := (G_61 L xs).N
  have s61_19 : mS (k_61 L xs) 19 = (2, 7) := (G_61 L xs).S 19 (by decide)
  have s61_20 : mS (k_61 L xs) 20 = (12, 10) := (G_61 L xs).S 20 (by decide)
  have s61_28 : mS (k_61 L xs) 28 = (1, 5) := (G_61 L xs).S 28 (by decide)
  have r61_0 : mR (k_61 L xs) 19 0 = 20 := ((G_61 L xs).R 19 0).trans (by decide +kernel)
  have r61_5 : mR (k_61 L xs) 19 5 = 26 := ((G_61 L xs).R 19 5).trans (by decide +kernel)
  refine (q_11_47 98 19 (1) (k_59 L xs)).trans ?_
  try simp only [n59, s59_19, s59_20, r59_0, r59_5, n60, s60_19, s60_20, s60_28, r60_0, r60_5, n61, s61_19, s61_20, s61_28, r61_0, r61_5, E_60, E_61, kc_15, Option.bind_some, ix_0, ix_1, ix_2, ix_3, ix_4, ix_5, ix_6, ix_7, ix_8, ix_9, ix_10, ix_14, ix_20, ix_24, ix_60, ix_96, ix_100, ix_120, ix_128, ix_2981, ix_3114, ix_4000]
  try rfl
theorem kt_25_8 : Rn 99 11 (47, [.ref 19, .int 2], [], k_61 L xs) = Rn 99 11 (47, [.ref 19, .int 3], [], k_63 L xs) := by
  have n61 := (G_61 L xs).N
  have s61_19 : mS (k_61 L xs) 19 = (2, 7) := (G_61 L xs).S 19 (by decide)
  have s61_20 : mS (k_61 L xs) 20 = (12, 10) := (G_61 L xs).S 20 (by decide)
  have r61_0 : mR (k_61 L xs) 19 0 = 20 := ((G_61 L xs).R 19 0).trans (by decide +kernel)
  have r61_5 : mR (k_61 L xs) 19 5 = 26 := ((G_61 L xs).R 19 5).trans (by decide +kernel)
  have n62 := (G_62 L xs).N
  have s62_19 : mS (k_62 L xs) 19 = (2, 7) := (G_62 L xs).S 19 (by decide)
  have s62_20 : mS (k_62 L xs) 20 = (12, 10) := (G_62 L xs).S 20 (by decide)
  have s62_29 : mS (k_62 L xs) 29 = (1, 5) := (G_62 L xs).S 29 (by decide)
  have r62_0 : mR (k_62 L xs) 19 0 = 20 := ((G_62 L xs).R 19 0).trans (by decide +kernel)
  have r62_5 : mR (k_62 L xs) 19 5 = 26 := ((G_62 L xs).R 19 5).trans (by decide +kernel)
  have n63 := (G_63 L xs).N
  have s63_19 : mS (k_63 L xs) 19 = (2, 7) := (G_63 L xs).S 19 (by decide)
  have s63_20 : mS (k_63 L xs) 20 = (12, 10) := (G_63 L xs).S 20 (by decide)
  have s63_29 : mS (k_63 L xs) 29 = (1, 5) := (G_63 L xs).S 29 (by decide)
  have r63_0 : mR (k_63 L xs) 19 0 = 20 := ((G_63 L xs).R 19 0).trans (by decide +kernel)
  have r63_5 : mR (k_63 L xs) 19 5 = 26 := ((G_63 L xs).R 19 5).trans (by decide +kernel)
  refine (q_11_47 98 19 (2) (k_61 L xs)).trans ?_
  try simp only [n61, s61_19, s61_20, r61_0, r61_5, n62, s62_19, s62_20, s62_29, r62_0, r62_5, n63, s63_19, s63_20, s63_29, r63_0, r63_5, E_62, E_63, kc_16, Option.bind_some, ix_0, ix_1, ix_2, ix_3, ix_4, ix_5, ix_6, ix_7, ix_8, ix_9, ix_10, ix_14, ix_20, ix_24, ix_60, ix_96, ix_100, ix_120, ix_128, ix_2981, ix_3114, ix_4000]
  try rfl
theorem kt_25_9 : Rn 99 11 (47, [.ref 19, .int 3], [], k_63 L xs) = Rn 99 11 (47, [.ref 19, .int 4], [], k_65 L xs) := by
  have n63 := (G_63 L xs).N
  have s63_19 : mS (k_63 L xs) 19 = (2, 7) := (G_63 L xs).S 19 (by decide)
  have s63_20 : mS (k_63 L xs) 20 = (12, 10) := (G_63 L xs).S 20 (by decide)
  have r63_0 : mR (k_63 L xs) 19 0 = 20 := ((G_63 L xs).R 19 0).trans (by decide +kernel)
  have r63_5 : mR (k_63 L xs) 19 5 = 26 := ((G_63 L xs).R 19 5).trans (by decide +kernel)
  have n64 := (G_64 L xs).N
  have s64_19 : mS (k_64 L xs) 19 = (2, 7) := (G_64 L xs).S 19 (by decide)
  have s64_20 : mS (k_64 L xs) 20 = (12, 10) := (G_64 L xs).S 20 (by decide)
  have s64_30 : mS (k_64 L xs) 30 = (1, 5) := (G_64 L xs).S 30 (by decide)
  have r64_0 : mR (k_64 L xs) 19 0 = 20 := ((G_64 L xs).R 19 0).trans (by decide +kernel)
  have r64_5 : mR (k_64 L xs) 19 5 = 26 := ((G_64 L xs).R 19 5).trans (by decide +kernel)
  have n65 := (G_65 L xs).N
  have s65_19 : mS (k_65 L xs) 19 = (2, 7) := (G_65 L xs).S 19 (by decide)
  have s65_20 : mS (k_65 L xs) 20 = (12, 10) := (G_65 L xs).S 20 (by decide)
  have s65_30 : mS (k_65 L xs) 30 = (1, 5) := (G_65 L xs).S 30 (by decide)
  have r65_0 : mR (k_65 L xs) 19 0 = 20 := ((G_65 L xs).R 19 0).trans (by decide +kernel)
  have r65_5 : mR (k_65 L xs) 19 5 = 26 := ((G_65 L xs).R 19 5).trans (by decide +kernel)
  refine (q_11_47 98 19 (3) (k_63 L xs)).trans ?_
  try simp only [n63, s63_19, s63_20, r63_0, r63_5, n64, s64_19, s64_20, s64_30, r64_0, r64_5, n65, s65_19, s65_20, s65_30, r65_0, r65_5, E_64, E_65, kc_17, Option.bind_some, ix_0, ix_1, ix_2, ix_3, ix_4, ix_5, ix_6, ix_7, ix_8, ix_9, ix_10, ix_14, ix_20, ix_24, ix_60, ix_96, ix_100, ix_120, ix_128, ix_2981, ix_3114, ix_4000]
  try rfl
theorem kt_25_10 : Rn 99 11 (47, [.ref 19, .int 4], [], k_65 L xs) = Rn 99 11 (47, [.ref 19, .int 5], [], k_67 L xs) := by
  have n65 := (G_65 L xs).N
  have s65_19 : mS (k_65 L xs) 19 = (2, 7) := (G_65 L xs).S 19 (by decide)
  have s65_20 : mS (k_65 L xs) 20 = (12, 10) := (G_65 L xs).S 20 (by decide)
  have r65_0 : mR (k_65 L xs) 19 0 = 20 := ((G_65 L xs).R 19 0).trans (by decide +kernel)
  have r65_5 : mR (k_65 L xs) 19 5 = 26 := ((G_65 L xs).R 19 5).trans (by decide +kernel)
  have n66 := (G_66 L xs).N
  have s66_19 : mS (k_66 L xs) 19 = (2, 7) := (G_66 L xs).S 19 (by decide)
  have s66_20 : mS (k_66 L xs) 20 = (12, 10) := (G_66 L xs).S 20 (by decide)
  have s66_31 : mS (k_66 L xs) 31 = (1, 5) := (G_66 L xs).S 31 (by decide)
  have r66_0 : mR (k_66 L xs) 19 0 = 20 := ((G_66 L xs).R 19 0).trans (by decide +kernel)
  have r66_5 : mR (k_66 L xs) 19 5 = 26 := ((G_66 L xs).R 19 5).trans (by decide +kernel)
  have n67 := (G_67 L xs).N
  have s67_19 : mS (k_67 L xs) 19 = (2, 7) := (G_67 L xs).S 19 (by decide)
  have s67_20 : mS (k_67 L xs) 20 = (12, 10) := (G_67 L xs).S 20 (by decide)
  have s67_31 : mS (k_67 L xs) 31 = (1, 5) := (G_67 L xs).S 31 (by decide)
  have r67_0 : mR (k_67 L xs) 19 0 = 20 := ((G_67 L xs).R 19 0).trans (by decide +kernel)
  have r67_5 : mR (k_67 L xs) 19 5 = 26 := ((G_67 L xs).R 19 5).trans (by decide +kernel)
  refine (q_11_47 98 19 (4) (k_65 L xs)).trans ?_
  try simp only [n65, s65_19, s65_20, r65_0, r65_5, n66, s66_19, s66_20, s66_31, r66_0, r66_5, n67, s67_19, s67_20, s67_31, r67_0, r67_5, E_66, E_67, kc_18, Option.bind_some, ix_0, ix_1, ix_2, ix_3, ix_4, ix_5, ix_6, ix_7, ix_8, ix_9, ix_10, ix_14, ix_20, ix_24, ix_60, ix_96, ix_100, ix_120, ix_128, ix_2981, ix_3114, ix_4000]
  try rfl
theorem kt_25_11 : Rn 99 11 (47, [.ref 19, .int 5], [], k_67 L xs) = Rn 99 11 (47, [.ref 19, .int 6], [], k_69 L xs) := by
  have n67 := (G_67 L xs).N
  have s67_19 : mS (k_67 L xs) 19 = (2, 7) := (G_67 L xs).S 19 (by decide)
  have s67_20 : mS (k_67 L xs) 20 = (12, 10) := (G_67 L xs).S 20 (by decide)
  have r67_0 : mR (k_67 L xs) 19 0 = 20 := ((G_67 L xs).R 19 0).trans (by decide +kernel)
  have r67_5 : mR (k_67 L xs) 19 5 = 26 := ((G_67 L xs).R 19 5).trans (by decide +kernel)
  have n68 := (G_68 L xs).N
  have s68_19 : mS (k_68 L xs) 19 = (2, 7) := (G_68 L xs).S 19 (by decide)
  have s68_20 : mS (k_68 L xs) 20 = (12, 10) := (G_68 L xs).S 20 (by decide)
  have s68_32 : mS (k_68 L xs) 32 = (1, 5) := (G_68 L xs).S 32 (by decide)
  have r68_0 : mR (k_68 L xs) 19 0 = 20 := ((G_68 L xs).R 19 0).trans (by decide +kernel)
  have r68_5 : mR (k_68 L xs) 19 5 = 26 := ((G_68 L xs).R 19 5).trans (by decide +kernel)
  have n69 := (G_69 L xs).N
  have s69_19 : mS (k_69 L xs) 19 = (2, 7) := (G_69 L xs).S 19 (by decide)
  have s69_20 : mS (k_69 L xs) 20 = (12, 10) := (G_69 L xs).S 20 (by decide)
  have s69_32 : mS (k_69 L xs) 32 = (1, 5) := (G_69 L xs).S 32 (by decide)
  have r69_0 : mR (k_69 L xs) 19 0 = 20 := ((G_69 L xs).R 19 0).trans (by decide +kernel)
  have r69_5 : mR (k_69 L xs) 19 5 = 26 := ((G_69 L xs).R 19 5).trans (by decide +kernel)
  refine (q_11_47 98 19 (5) (k_67 L xs)).trans ?_
  try simp only [n67, s67_19, s67_20, r67_0, r67_5, n68, s68_19, s68_20, s68_32, r68_0, r68_5, n69, s69_19, s69_20, s69_32, r69_0, r69_5, E_68, E_69, kc_19, Option.bind_some, ix_0, ix_1, ix_2, ix_3, ix_4, ix_5, ix_6, ix_7, ix_8, ix_9, ix_10, ix_14, ix_20, ix_24, ix_60, ix_96, ix_100, ix_120, ix_128, ix_2981, ix_3114, ix_4000]
  try rfl
theorem kt_25_12 : Rn 99 11 (47, [.ref 19, .int 6], [], k_69 L xs) = Rn 99 11 (47, [.ref 19, .int 7], [], k_71 L xs) := by
  have n69 := (G_69 L xs).N
  have s69_19 : mS (k_69 L xs) 19 = (2, 7) := (G_69 L xs).S 19 (by decide)
  have s69_20 : mS (k_69 L xs) 20 = (12, 10) := (G_69 L xs).S 20 (by decide)
  have r69_0 : mR (k_69 L xs) 19 0 = 20 := ((G_69 L xs).R 19 0).trans (by decide +kernel)
  have r69_5 : mR (k_69 L xs) 19 5 = 26 := ((G_69 L xs).R 19 5).trans (by decide +kernel)
  have n70 := (G_70 L xs).N
  have s70_19 : mS (k_70 L xs) 19 = (2, 7) := (G_70 L xs).S 19 (by decide)
  have s70_20 : mS (k_70 L xs) 20 = (12, 10) := (G_70 L xs).S 20 (by decide)
  have s70_33 : mS (k_70 L xs) 33 = (1, 5) := (G_70 L xs).S 33 (by decide)
  have r70_0 : mR (k_70 L xs) 19 0 = 20 := ((G_70 L xs).R 19 0).trans (by decide +kernel)
  have r70_5 : mR (k_70 L xs) 19 5 = 26 := ((G_70 L xs).R 19 5).trans (by decide +kernel)
  have n71 := (G_71 L xs).N
  have s71_19 : mS (k_71 L xs) 19 = (2, 7) := (G_71 L xs).S 19 (by decide)
  have s71_20 : mS (k_71 L xs) 20 = (12, 10) := (G_71 L xs).S 20 (by decide)
  have s71_33 : mS (k_71 L xs) 33 = (1, 5) := (G_71 L xs).S 33 (by decide)
  have r71_0 : mR (k_71 L xs) 19 0 = 20 := ((G_71 L xs).R 19 0).trans (by decide +kernel)
  have r71_5 : mR (k_71 L xs) 19 5 = 26 := ((G_71 L xs).R 19 5).trans (by decide +kernel)
  refine (q_11_47 98 19 (6) (k_69 L xs)).trans ?_
  try simp only [n69, s69_19, s69_20, r69_0, r69_5, n70, s70_19, s70_20, s70_33, r70_0, r70_5, n71, s71_19, s71_20, s71_33, r71_0, r71_5, E_70, E_71, kc_20, Option.bind_some, ix_0, ix_1, ix_2, ix_3, ix_4, ix_5, ix_6, ix_7, ix_8, ix_9, ix_10, ix_14, ix_20, ix_24, ix_60, ix_96, ix_100, ix_120, ix_128, ix_2981, ix_3114, ix_4000]
  try rfl
theorem kt_25_13 : Rn 99 11 (47, [.ref 19, .int 7], [], k_71 L xs) = Rn 99 11 (47, [.ref 19, .int 8], [], k_73 L xs) := by
  have n71 := (G_71 L xs).N
  have s71_19 : mS (k_71 L xs) 19 = (2, 7) := (G_71 L xs).S 19 (by decide)
  have s71_20 : mS (k_71 L xs) 20 = (12, 10) := (G_71 L xs).S 20 (by decide)
  have r71_0 : mR (k_71 L xs) 19 0 = 20 := ((G_71 L xs).R 19 0).trans (by decide +kernel)
  have r71_5 : mR (k_71 L xs) 19 5 = 26 := ((G_71 L xs).R 19 5).trans (by decide +kernel)
  have n72 := (G_72 L xs).N
  have s72_19 : mS (k_72 L xs) 19 = (2, 7) := (G_72 L xs).S 19 (by decide)
  have s72_20 : mS (k_72 L xs) 20 = (12, 10) := (G_72 L xs).S 20 (by decide)
  have s72_34 : mS (k_72 L xs) 34 = (1, 5) := (G_72 L xs).S 34 (by decide)
  have r72_0 : mR (k_72 L xs) 19 0 = 20 := ((G_72 L xs).R 19 0).trans (by decide +kernel)
  have r72_5 : mR (k_72 L xs) 19 5 = 26 := ((G_72 L xs).R 19 5).trans (by decide +kernel)
  have n73 := (G_73 L xs).N
  have s73_19 : mS (k_73 L xs) 19 = (2, 7) := (G_73 L xs).S 19 (by decide)
  have s73_20 : mS (k_73 L xs) 20 = (12, 10) := (G_73 L xs).S 20 (by decide)
  have s73_34 : mS (k_73 L xs) 34 = (1, 5) := (G_73 L xs).S 34 (by decide)
  have r73_0 : mR (k_73 L xs) 19 0 = 20 := ((G_73 L xs).R 19 0).trans (by decide +kernel)
  have r73_5 : mR (k_73 L xs) 19 5 = 26 := ((G_73 L xs).R 19 5).trans (by decide +kernel)
  refine (q_11_47 98 19 (7) (k_71 L xs)).trans ?_
  try simp only [n71, s71_19, s71_20, r71_0, r71_5, n72, s72_19, s72_20, s72_34, r72_0, r72_5, n73, s73_19, s73_20, s73_34, r73_0, r73_5, E_72, E_73, kc_21, Option.bind_some, ix_0, ix_1, ix_2, ix_3, ix_4, ix_5, ix_6, ix_7, ix_8, ix_9, ix_10, ix_14, ix_20, ix_24, ix_60, ix_96, ix_100, ix_120, ix_128, ix_2981, ix_3114, ix_4000]
  try rfl
theorem kt_25_14 : Rn 99 11 (47, [.ref 19, .int 8], [], k_73 L xs) = Rn 99 11 (47, [.ref 19, .int 9], [], k_75 L xs) := by
  have n73 := (G_73 L xs).N
  have s73_19 : mS (k_73 L xs) 19 = (2, 7) := (G_73 L xs).S 19 (by decide)
  have s73_20 : mS (k_73 L xs) 20 = (12, 10) := (G_73 L xs).S 20 (by decide)
  have r73_0 : mR (k_73 L xs) 19 0 = 20 := ((G_73 L xs).R 19 0).trans (by decide +kernel)
  have r73_5 : mR (k_73 L xs) 19 5 = 26 := ((G_73 L xs).R 19 5).trans (by decide +kernel)
  have n74 := (G_74 L xs).N
  have s74_19 : mS (k_74 L xs) 19 = (2, 7) := (G_74 L xs).S 19 (by decide)
  have s74_20 : mS (k_74 L xs) 20 = (12, 10) := (G_74 L xs).S 20 (by decide)
  have s74_35 : mS (k_74 L xs) 35 = (1, 5) := (G_74 L xs).S 35 (by decide)
  have r74_0 : mR (k_74 L xs) 19 0 = 20 := ((G_74 L xs).R 19 0).trans (by decide +kernel)
  have r74_5 : mR (k_74 L xs) 19 5 = 26 := ((G_74 L xs).R 19 5).trans (by decide +kernel)
  have n75 := (G_75 L xs).N
  have s75_19 : mS (k_75 L xs) 19 = (2, 7) := (G_75 L xs).S 19 (by decide)
  have s75_20 : mS (k_75 L xs) 20 = (12, 10) := (G_75 L xs).S 20 (by decide)
  have s75_35 : mS (k_75 L xs) 35 = (1, 5) := (G_75 L xs).S 35 (by decide)
  have r75_0 : mR (k_75 L xs) 19 0 = 20 := ((G_75 L xs).R 19 0).trans (by decide +kernel)
  have r75_5 : mR (k_75 L xs) 19 5 = 26 := ((G_75 L xs).R 19 5).trans (by decide +kernel)
  refine (q_11_47 98 19 (8) (k_73 L xs)).trans ?_
  try simp only [n73, s73_19, s73_20, r73_0, r73_5, n74, s74_19, s74_20, s74_35, r74_0, r74_5, n75, s75_19, s75_20, s75_35, r75_0, r75_5, E_74, E_75, kc_22, Option.bind_some, ix_0, ix_1, ix_2, ix_3, ix_4, ix_5, ix_6, ix_7, ix_8, ix_9, ix_10, ix_14, ix_20, ix_24, ix_60, ix_96, ix_100, ix_120, ix_128, ix_2981, ix_3114, ix_4000]
  try rfl
theorem kt_25_15 : Rn 99 11 (47, [.ref 19, .int 9], [], k_75 L xs) = Rn 99 11 (47, [.ref 19, .int 10], [], k_77 L xs) := by
  have n75 := (G_75 L xs).N
  have s75_19 : mS (k_75 L xs) 19 = (2, 7) := (G_75 L xs).S 19 (by decide)
  have s75_20 : mS (k_75 L xs) 20 = (12, 10) := (G_75 L xs).S 20 (by decide)
  have r75_0 : mR (k_75 L xs) 19 0 = 20 := ((G_75 L xs).R 19 0).trans (by decide +kernel)
  have r75_5 : mR (k_75 L xs) 19 5 = 26 := ((G_75 L xs).R 19 5).trans (by decide +kernel)
  have n76 := (G_76 L xs).N
  have s76_19 : mS (k_76 L xs) 19 = (2, 7) := (G_76 L xs).S 19 (by decide)
  have s76_20 : mS (k_76 L xs) 20 = (12, 10) := (G_76 L xs).S 20 (by decide)
  have s76_36 : mS (k_76 L xs) 36 = (1, 5) := (G_76 L xs).S 36 (by decide)
  have r76_0 : mR (k_76 L xs) 19 0 = 20 := ((G_76 L xs).R 19 0).trans (by decide +kernel)
  have r76_5 : mR (k_76 L xs) 19 5 = 26 := ((G_76 L xs).R 19 5).trans (by decide +kernel)
  have n77 := (G_77 L xs).N
  have s77_19 : mS (k_77 L xs) 19 = (2, 7) := (G_77 L xs).S 19 (by decide)
  have s77_20 : mS (k_77 L xs) 20 = (12, 10) := (G_77 L xs).S 20 (by decide)
  have s77_36 : mS (k_77 L xs) 36 = (1, 5) := (G_77 L xs).S 36 (by decide)
  have r77_0 : mR (k_77 L xs) 19 0 = 20 := ((G_77 L xs).R 19 0).trans (by decide +kernel)
  have r77_5 : mR (k_77 L xs) 19 5 = 26 := ((G_77 L xs).R 19 5).trans (by decide +kernel)
  refine (q_11_47 98 19 (9) (k_75 L xs)).trans ?_
  try simp only [n75, s75_19, s75_20, r75_0, r75_5, n76, s76_19, s76_20, s76_36, r76_0, r76_5, n77, s77_19, s77_20, s77_36, r77_0, r77_5, E_76, E_77, kc_23, Option.bind_some, ix_0, ix_1, ix_2, ix_3, ix_4, ix_5, ix_6, ix_7, ix_8, ix_9, ix_10, ix_14, ix_20, ix_24, ix_60, ix_96, ix_100, ix_120, ix_128, ix_2981, ix_3114, ix_4000]
  try rfl
theorem kt_25_16 : Rn 99 11 (47, [.ref 19, .int 10], [], k_77 L xs) = some (none, k_80 L xs) := by
  have n77 := (G_77 L xs).N
  have s77_19 : mS (k_77 L xs) 19 = (2, 7) := (G_77 L xs).S 19 (by decide)
  have r77_5 : mR (k_77 L xs) 19 5 = 26 := ((G_77 L xs).R 19 5).trans (by decide +kernel)
  have n80 := (G_80 L xs).N
  have s80_19 : mS (k_80 L xs) 19 = (2, 7) := (G_80 L xs).S 19 (by decide)
  have r80_5 : mR (k_80 L xs) 19 5 = 26 := ((G_80 L xs).R 19 5).trans (by decide +kernel)
  refine (q_11_47 98 19 (10) (k_77 L xs)).trans ?_
  try simp only [n77, s77_19, r77_5, n80, s80_19, r80_5, kc_24, Option.bind_some, ix_0, ix_1, ix_2, ix_3, ix_4, ix_5, ix_6, ix_7, ix_8, ix_9, ix_10, ix_14, ix_20, ix_24, ix_60, ix_96, ix_100, ix_120, ix_128, ix_2981, ix_3114, ix_4000]
  try rfl
theorem kc_25 : cV 99 11 [.ref 19] (k_42 L xs) = some (k_80 L xs) := i_11 ((kt_25_0 L xs).trans ((kt_25_1 L xs).trans ((kt_25_2 L xs).trans ((kt_25_3 L xs).trans ((kt_25_4 L xs).trans ((kt_25_5 L xs).trans ((kt_25_6 L xs).trans ((kt_25_7 L xs).trans ((kt_25_8 L xs).trans ((kt_25_9 L xs).trans ((kt_25_10 L xs).trans ((kt_25_11 L xs).trans ((kt_25_12 L xs).trans ((kt_25_13 L xs).trans ((kt_25_14 L xs).trans ((kt_25_15 L xs).trans (kt_25_16 L xs)))))))))))))))))
def k_81 (L : Nat) (xs : Nat → Int32) : aMem := setR (k_80 L xs) 0 1 19
def zr_81 : List (Nat × Nat × Nat) := (0, 1, 19) :: zr_77
theorem G_81 : Mk L xs 37 308 zr_81 zf_80 (k_81 L xs) := mk_setR (G_80 L xs)
theorem E_81 : setR (k_80 L xs) 0 1 19 = k_81 L xs := rfl
def k_82 (L : Nat) (xs : Nat → Int32) : aMem := newC (k_81 L xs) 2 7
theorem G_82 : Mk L xs 38 315 zr_81 zf_80 (k_82 L xs) := mk_new (G_81 L xs) (by decide +kernel) (by decide +kernel) (by decide +kernel)
theorem E_82 : newC (k_81 L xs) 2 7 = k_82 L xs := rfl
def k_83 (L : Nat) (xs : Nat → Int32) : aMem := newC (k_82 L xs) 12 10
theorem G_83 : Mk L xs 39 325 zr_81 zf_80 (k_83 L xs) := mk_new (G_82 L xs) (by decide +kernel) (by decide +kernel) (by decide +kernel)
theorem E_83 : newC (k_82 L xs) 12 10 = k_83 L xs := rfl
def k_84 (L : Nat) (xs : Nat → Int32) : aMem := setR (k_83 L xs) 37 0 38
def zr_84 : List (Nat × Nat × Nat) := (37, 0, 38) :: zr_81
theorem G_84 : Mk L xs 39 325 zr_84 zf_80 (k_84 L xs) := mk_setR (G_83 L xs)
theorem E_84 : setR (k_83 L xs) 37 0 38 = k_84 L xs := rfl
def k_85 (L : Nat) (xs : Nat → Int32) : aMem := newC (k_84 L xs) 0 4
theorem G_85 : Mk L xs 40 329 zr_84 zf_80 (k_85 L xs) := mk_new (G_84 L xs) (by decide +kernel) (by decide +kernel) (by decide +kernel)
theorem E_85 : newC (k_84 L xs) 0 4 = k_85 L xs := rfl
def k_86 (L : Nat) (xs : Nat → Int32) : aMem := newC (k_85 L xs) 10 20
theorem G_86 : Mk L xs 41 349 zr_84 zf_80 (k_86 L xs) := mk_new (G_85 L xs) (by decide +kernel) (by decide +kernel) (by decide +kernel)
theorem E_86 : newC (k_85 L xs) 10 20 = k_86 L xs := rfl
def k_87 (L : Nat) (xs : Nat → Int32) : aMem := setR (k_86 L xs) 39 0 40
def zr_87 : List (Nat × Nat × Nat) := (39, 0, 40) :: zr_84
theorem G_87 : Mk L xs 41 349 zr_87 zf_80 (k_87 L xs) := mk_setR (G_86 L xs)
theorem E_87 : setR (k_86 L xs) 39 0 40 = k_87 L xs := rfl
def k_88 (L : Nat) (xs : Nat → Int32) : aMem := newC (k_87 L xs) 10 20
theorem G_88 : Mk L xs 42 369 zr_87 zf_80 (k_88 L xs) := mk_new (G_87 L xs) (by decide +kernel) (by decide +kernel) (by decide +kernel)
theorem E_88 : newC (k_87 L xs) 10 20 = k_88 L xs := rfl
def k_89 (L : Nat) (xs : Nat → Int32) : aMem := setR (k_88 L xs) 39 1 41
def zr_89 : List (Nat × Nat × Nat) := (39, 1, 41) :: zr_87
theorem G_89 : Mk L xs 42 369 zr_89 zf_80 (k_89 L xs) := mk_setR (G_88 L xs)
theorem E_89 : setR (k_88 L xs) 39 1 41 = k_89 L xs := rfl
def k_90 (L : Nat) (xs : Nat → Int32) : aMem := newC (k_89 L xs) 10 20
theorem G_90 : Mk L xs 43 389 zr_89 zf_80 (k_90 L xs) := mk_new (G_89 L xs) (by decide +kernel) (by decide +kernel) (by decide +kernel)
theorem E_90 : newC (k_89 L xs) 10 20 = k_90 L xs := rfl
def k_91 (L : Nat) (xs : Nat → Int32) : aMem := setR (k_90 L xs) 39 2 42
def zr_91 : List (Nat × Nat × Nat) := (39, 2, 42) :: zr_89
theorem G_91 : Mk L xs 43 389 zr_91 zf_80 (k_91 L xs) := mk_setR (G_90 L xs)
theorem E_91 : setR (k_90 L xs) 39 2 42 = k_91 L xs := rfl
theorem kt_26_0 : Rn 98 0 (0, [.ref 39], [], k_85 L xs) = Rn 98 0 (12, [.ref 39], [], k_87 L xs) := by
  have n85 := (G_85 L xs).N
  have s85_39 : mS (k_85 L xs) 39 = (0, 4) := (G_85 L xs).S 39 (by decide)
  have n86 := (G_86 L xs).N
  have s86_39 : mS (k_86 L xs) 39 = (0, 4) := (G_86 L xs).S 39 (by decide)
  have s86_40 : mS (k_86 L xs) 40 = (10, 20) := (G_86 L xs).S 40 (by decide)
  have n87 := (G_87 L xs).N
  have s87_39 : mS (k_87 L xs) 39 = (0, 4) := (G_87 L xs).S 39 (by decide)
  have s87_40 : mS (k_87 L xs) 40 = (10, 20) := (G_87 L xs).S 40 (by decide)
  have r87_0 : mR (k_87 L xs) 39 0 = 40 := ((G_87 L xs).R 39 0).trans (by decide +kernel)
  refine (q_0_0 98 39 (k_85 L xs)).trans ?_
  try simp only [n85, s85_39, n86, s86_39, s86_40, n87, s87_39, s87_40, r87_0, E_86, E_87, ix_0, ix_1, ix_2, ix_3, ix_4, ix_5, ix_6, ix_7, ix_8, ix_9, ix_10, ix_14, ix_20, ix_24, ix_60, ix_96, ix_100, ix_120, ix_128, ix_2981, ix_3114, ix_4000]
  try rfl
theorem kt_26_1 : Rn 98 0 (12, [.ref 39], [], k_87 L xs) = Rn 98 0 (20, [.ref 39], [], k_89 L xs) := by
  have n87 := (G_87 L xs).N
  have s87_39 : mS (k_87 L xs) 39 = (0, 4) := (G_87 L xs).S 39 (by decide)
  have n88 := (G_88 L xs).N
  have s88_39 : mS (k_88 L xs) 39 = (0, 4) := (G_88 L xs).S 39 (by decide)
  have s88_41 : mS (k_88 L xs) 41 = (10, 20) := (G_88 L xs).S 41 (by decide)
  have n89 := (G_89 L xs).N
  have s89_39 : mS (k_89 L xs) 39 = (0, 4) := (G_89 L xs).S 39 (by decide)
  have s89_41 : mS (k_89 L xs) 41 = (10, 20) := (G_89 L xs).S 41 (by decide)
  have r89_1 : mR (k_89 L xs) 39 1 = 41 := ((G_89 L xs).R 39 1).trans (by decide +kernel)
  refine (q_0_12 98 39 (k_87 L xs)).trans ?_
  try simp only [n87, s87_39, n88, s88_39, s88_41, n89, s89_39, s89_41, r89_1, E_88, E_89, ix_0, ix_1, ix_2, ix_3, ix_4, ix_5, ix_6, ix_7, ix_8, ix_9, ix_10, ix_14, ix_20, ix_24, ix_60, ix_96, ix_100, ix_120, ix_128, ix_2981, ix_3114, ix_4000]
  try rfl
theorem kt_26_2 : Rn 98 0 (20, [.ref 39], [], k_89 L xs) = Rn 98 0 (28, [.ref 39], [], k_91 L xs) := by
  have n89 := (G_89 L xs).N
  have s89_39 : mS (k_89 L xs) 39 = (0, 4) := (G_89 L xs).S 39 (by decide)
  have n90 := (G_90 L xs).N
  have s90_39 : mS (k_90 L xs) 39 = (0, 4) := (G_90 L xs).S 39 (by decide)
  have s90_42 : mS (k_90 L xs) 42 = (10, 20) := (G_90 L xs).S 42 (by decide)
  have n91 := (G_91 L xs).N
  have s91_39 : mS (k_91 L xs) 39 = (0, 4) := (G_91 L xs).S 39 (by decide)
  have s91_42 : mS (k_91 L xs) 42 = (10, 20) := (G_91 L xs).S 42 (by decide)
  have r91_2 : mR (k_91 L xs) 39 2 = 42 := ((G_91 L xs).R 39 2).trans (by decide +kernel)
  refine (q_0_20 98 39 (k_89 L xs)).trans ?_
  try simp only [n89, s89_39, n90, s90_39, s90_42, n91, s91_39, s91_42, r91_2, E_90, E_91, ix_0, ix_1, ix_2, ix_3, ix_4, ix_5, ix_6, ix_7, ix_8, ix_9, ix_10, ix_14, ix_20, ix_24, ix_60, ix_96, ix_100, ix_120, ix_128, ix_2981, ix_3114, ix_4000]
  try rfl
theorem kt_26_3 : Rn 98 0 (28, [.ref 39], [], k_91 L xs) = some (none, k_91 L xs) := by
  have n91 := (G_91 L xs).N
  have s91_39 : mS (k_91 L xs) 39 = (0, 4) := (G_91 L xs).S 39 (by decide)
  refine (q_0_28 98 39 (k_91 L xs)).trans ?_
  try simp only [n91, s91_39, ix_0, ix_1, ix_2, ix_3, ix_4, ix_5, ix_6, ix_7, ix_8, ix_9, ix_10, ix_14, ix_20, ix_24, ix_60, ix_96, ix_100, ix_120, ix_128, ix_2981, ix_3114, ix_4000]
  try rfl
theorem kc_26 : cV 98 0 [.ref 39] (k_85 L xs) = some (k_91 L xs) := i_0 ((kt_26_0 L xs).trans ((kt_26_1 L xs).trans ((kt_26_2 L xs).trans (kt_26_3 L xs))))
def k_92 (L : Nat) (xs : Nat → Int32) : aMem := setR (k_91 L xs) 37 2 39
def zr_92 : List (Nat × Nat × Nat) := (37, 2, 39) :: zr_91
theorem G_92 : Mk L xs 43 389 zr_92 zf_80 (k_92 L xs) := mk_setR (G_91 L xs)
theorem E_92 : setR (k_91 L xs) 37 2 39 = k_92 L xs := rfl
def k_93 (L : Nat) (xs : Nat → Int32) : aMem := newC (k_92 L xs) 15 14
theorem G_93 : Mk L xs 44 403 zr_92 zf_80 (k_93 L xs) := mk_new (G_92 L xs) (by decide +kernel) (by decide +kernel) (by decide +kernel)
theorem E_93 : newC (k_92 L xs) 15 14 = k_93 L xs := rfl
def k_94 (L : Nat) (xs : Nat → Int32) : aMem := setR (k_93 L xs) 37 3 43
def zr_94 : List (Nat × Nat × Nat) := (37, 3, 43) :: zr_92
theorem G_94 : Mk L xs 44 403 zr_94 zf_80 (k_94 L xs) := mk_setR (G_93 L xs)
theorem E_94 : setR (k_93 L xs) 37 3 43 = k_94 L xs := rfl
def k_95 (L : Nat) (xs : Nat → Int32) : aMem := newC (k_94 L xs) 10 3
theorem G_95 : Mk L xs 45 406 zr_94 zf_80 (k_95 L xs) := mk_new (G_94 L xs) (by decide +kernel) (by decide +kernel) (by decide +kernel)
theorem E_95 : newC (k_94 L xs) 10 3 = k_95 L xs := rfl
def k_96 (L : Nat) (xs : Nat → Int32) : aMem := setR (k_95 L xs) 37 5 44
def zr_96 : List (Nat × Nat × Nat) := (37, 5, 44) :: zr_94
theorem G_96 : Mk L xs 45 406 zr_96 zf_80 (k_96 L xs) := mk_setR (G_95 L xs)
theorem E_96 : setR (k_95 L xs) 37 5 44 = k_96 L xs := rfl
def k_97 (L : Nat) (xs : Nat → Int32) : aMem := setF (k_96 L xs) 37 6 1
def zf_97 : List (Nat × Nat × Int32) := (37, 6, 1) :: zf_80
theorem G_97 : Mk L xs 45 406 zr_96 zf_97 (k_97 L xs) := mk_setF (G_96 L xs) (by decide)
theorem E_97 : setF (k_96 L xs) 37 6 1 = k_97 L xs := rfl
def k_98 (L : Nat) (xs : Nat → Int32) : aMem := newC (k_97 L xs) 1 5
theorem G_98 : Mk L xs 46 411 zr_96 zf_97 (k_98 L xs) := mk_new (G_97 L xs) (by decide +kernel) (by decide +kernel) (by decide +kernel)
theorem E_98 : newC (k_97 L xs) 1 5 = k_98 L xs := rfl
theorem kt_27_0 : Rn 98 5 (0, [.ref 45], [], k_98 L xs) = some (none, k_98 L xs) := by
  have n98 := (G_98 L xs).N
  have s98_45 : mS (k_98 L xs) 45 = (1, 5) := (G_98 L xs).S 45 (by decide)
  refine (q_5_0 98 45 (k_98 L xs)).trans ?_
  try simp only [n98, s98_45, ix_0, ix_1, ix_2, ix_3, ix_4, ix_5, ix_6, ix_7, ix_8, ix_9, ix_10, ix_14, ix_20, ix_24, ix_60, ix_96, ix_100, ix_120, ix_128, ix_2981, ix_3114, ix_4000]
  try rfl
theorem kc_27 : cV 98 5 [.ref 45] (k_98 L xs) = some (k_98 L xs) := i_5 (kt_27_0 L xs)
def k_99 (L : Nat) (xs : Nat → Int32) : aMem := setR (k_98 L xs) 38 0 45
def zr_99 : List (Nat × Nat × Nat) := (38, 0, 45) :: zr_96
theorem G_99 : Mk L xs 46 411 zr_99 zf_97 (k_99 L xs) := mk_setR (G_98 L xs)
theorem E_99 : setR (k_98 L xs) 38 0 45 = k_99 L xs := rfl
def k_100 (L : Nat) (xs : Nat → Int32) : aMem := newC (k_99 L xs) 1 5
theorem G_100 : Mk L xs 47 416 zr_99 zf_97 (k_100 L xs) := mk_new (G_99 L xs) (by decide +kernel) (by decide +kernel) (by decide +kernel)
theorem E_100 : newC (k_99 L xs) 1 5 = k_100 L xs := rfl
theorem kt_28_0 : Rn 98 5 (0, [.ref 46], [], k_100 L xs) = some (none, k_100 L xs) := by
  have n100 := (G_100 L xs).N
  have s100_46 : mS (k_100 L xs) 46 = (1, 5) := (G_100 L xs).S 46 (by decide)
  refine (q_5_0 98 46 (k_100 L xs)).trans ?_
  try simp only [n100, s100_46, ix_0, ix_1, ix_2, ix_3, ix_4, ix_5, ix_6, ix_7, ix_8, ix_9, ix_10, ix_14, ix_20, ix_24, ix_60, ix_96, ix_100, ix_120, ix_128, ix_2981, ix_3114, ix_4000]
  try rfl
theorem kc_28 : cV 98 5 [.ref 46] (k_100 L xs) = some (k_100 L xs) := i_5 (kt_28_0 L xs)
def k_101 (L : Nat) (xs : Nat → Int32) : aMem := setR (k_100 L xs) 38 1 46
def zr_101 : List (Nat × Nat × Nat) := (38, 1, 46) :: zr_99
theorem G_101 : Mk L xs 47 416 zr_101 zf_97 (k_101 L xs) := mk_setR (G_100 L xs)
theorem E_101 : setR (k_100 L xs) 38 1 46 = k_101 L xs := rfl
def k_102 (L : Nat) (xs : Nat → Int32) : aMem := newC (k_101 L xs) 1 5
theorem G_102 : Mk L xs 48 421 zr_101 zf_97 (k_102 L xs) := mk_new (G_101 L xs) (by decide +kernel) (by decide +kernel) (by decide +kernel)
theorem E_102 : newC (k_101 L xs) 1 5 = k_102 L xs := rfl
theorem kt_29_0 : Rn 98 5 (0, [.ref 47], [], k_102 L xs) = some (none, k_102 L xs) := by
  have n102 := (G_102 L xs).N
  have s102_47 : mS (k_102 L xs) 47 = (1, 5) := (G_102 L xs).S 47 (by decide)
  refine (q_5_0 98 47 (k_102 L xs)).trans ?_
  try simp only [n102, s102_47, ix_0, ix_1, ix_2, ix_3, ix_4, ix_5, ix_6, ix_7, ix_8, ix_9, ix_10, ix_14, ix_20, ix_24, ix_60, ix_96, ix_100, ix_120, ix_128, ix_2981, ix_3114, ix_4000]
  try rfl
theorem kc_29 : cV 98 5 [.ref 47] (k_102 L xs) = some (k_102 L xs) := i_5 (kt_29_0 L xs)
def k_103 (L : Nat) (xs : Nat → Int32) : aMem := setR (k_102 L xs) 38 2 47
def zr_103 : List (Nat × Nat × Nat) := (38, 2, 47) :: zr_101
theorem G_103 : Mk L xs 48 421 zr_103 zf_97 (k_103 L xs) := mk_setR (G_102 L xs)
theorem E_103 : setR (k_102 L xs) 38 2 47 = k_103 L xs := rfl
def k_104 (L : Nat) (xs : Nat → Int32) : aMem := newC (k_103 L xs) 1 5
theorem G_104 : Mk L xs 49 426 zr_103 zf_97 (k_104 L xs) := mk_new (G_103 L xs) (by decide +kernel) (by decide +kernel) (by decide +kernel)
theorem E_104 : newC (k_103 L xs) 1 5 = k_104 L xs := rfl
theorem kt_30_0 : Rn 98 5 (0, [.ref 48], [], k_104 L xs) = some (none, k_104 L xs) := by
  have n104 := (G_104 L xs).N
  have s104_48 : mS (k_104 L xs) 48 = (1, 5) := (G_104 L xs).S 48 (by decide)
  refine (q_5_0 98 48 (k_104 L xs)).trans ?_
  try simp only [n104, s104_48, ix_0, ix_1, ix_2, ix_3, ix_4, ix_5, ix_6, ix_7, ix_8, ix_9, ix_10, ix_14, ix_20, ix_24, ix_60, ix_96, ix_100, ix_120, ix_128, ix_2981, ix_3114, ix_4000]
  try rfl
theorem kc_30 : cV 98 5 [.ref 48] (k_104 L xs) = some (k_104 L xs) := i_5 (kt_30_0 L xs)
def k_105 (L : Nat) (xs : Nat → Int32) : aMem := setR (k_104 L xs) 38 3 48
def zr_105 : List (Nat × Nat × Nat) := (38, 3, 48) :: zr_103
theorem G_105 : Mk L xs 49 426 zr_105 zf_97 (k_105 L xs) := mk_setR (G_104 L xs)
theorem E_105 : setR (k_104 L xs) 38 3 48 = k_105 L xs := rfl
def k_106 (L : Nat) (xs : Nat → Int32) : aMem := newC (k_105 L xs) 1 5
theorem G_106 : Mk L xs 50 431 zr_105 zf_97 (k_106 L xs) := mk_new (G_105 L xs) (by decide +kernel) (by decide +kernel) (by decide +kernel)
theorem E_106 : newC (k_105 L xs) 1 5 = k_106 L xs := rfl
theorem kt_31_0 : Rn 98 5 (0, [.ref 49], [], k_106 L xs) = some (none, k_106 L xs) := by
  have n106 := (G_106 L xs).N
  have s106_49 : mS (k_106 L xs) 49 = (1, 5) := (G_106 L xs).S 49 (by decide)
  refine (q_5_0 98 49 (k_106 L xs)).trans ?_
  try simp only [n106, s106_49, ix_0, ix_1, ix_2, ix_3, ix_4, ix_5, ix_6, ix_7, ix_8, ix_9, ix_10, ix_14, ix_20, ix_24, ix_60, ix_96, ix_100, ix_120, ix_128, ix_2981, ix_3114, ix_4000]
  try rfl
theorem kc_31 : cV 98 5 [.ref 49] (k_106 L xs) = some (k_106 L xs) := i_5 (kt_31_0 L xs)
def k_107 (L : Nat) (xs : Nat → Int32) : aMem := setR (k_106 L xs) 38 4 49
def zr_107 : List (Nat × Nat × Nat) := (38, 4, 49) :: zr_105
theorem G_107 : Mk L xs 50 431 zr_107 zf_97 (k_107 L xs) := mk_setR (G_106 L xs)
theorem E_107 : setR (k_106 L xs) 38 4 49 = k_107 L xs := rfl
def k_108 (L : Nat) (xs : Nat → Int32) : aMem := newC (k_107 L xs) 1 5
theorem G_108 : Mk L xs 51 436 zr_107 zf_97 (k_108 L xs) := mk_new (G_107 L xs) (by decide +kernel) (by decide +kernel) (by decide +kernel)
theorem E_108 : newC (k_107 L xs) 1 5 = k_108 L xs := rfl
theorem kt_32_0 : Rn 98 5 (0, [.ref 50], [], k_108 L xs) = some (none, k_108 L xs) := by
  have n108 := (G_108 L xs).N
  have s108_50 : mS (k_108 L xs) 50 = (1, 5) := (G_108 L xs).S 50 (by decide)
  refine (q_5_0 98 50 (k_108 L xs)).trans ?_
  try simp only [n108, s108_50, ix_0, ix_1, ix_2, ix_3, ix_4, ix_5, ix_6, ix_7, ix_8, ix_9, ix_10, ix_14, ix_20, ix_24, ix_60, ix_96, ix_100, ix_120, ix_128, ix_2981, ix_3114, ix_4000]
  try rfl
theorem kc_32 : cV 98 5 [.ref 50] (k_108 L xs) = some (k_108 L xs) := i_5 (kt_32_0 L xs)
def k_109 (L : Nat) (xs : Nat → Int32) : aMem := setR (k_108 L xs) 38 5 50
def zr_109 : List (Nat × Nat × Nat) := (38, 5, 50) :: zr_107
theorem G_109 : Mk L xs 51 436 zr_109 zf_97 (k_109 L xs) := mk_setR (G_108 L xs)
theorem E_109 : setR (k_108 L xs) 38 5 50 = k_109 L xs := rfl
def k_110 (L : Nat) (xs : Nat → Int32) : aMem := newC (k_109 L xs) 1 5
theorem G_110 : Mk L xs 52 441 zr_109 zf_97 (k_110 L xs) := mk_new (G_109 L xs) (by decide +kernel) (by decide +kernel) (by decide +kernel)
theorem E_110 : newC (k_109 L xs) 1 5 = k_110 L xs := rfl
theorem kt_33_0 : Rn 98 5 (0, [.ref 51], [], k_110 L xs) = some (none, k_110 L xs) := by
  have n110 := (G_110 L xs).N
  have s110_51 : mS (k_110 L xs) 51 = (1, 5) := (G_110 L xs).S 51 (by decide)
  refine (q_5_0 98 51 (k_110 L xs)).trans ?_
  try simp only [n110, s110_51, ix_0, ix_1, ix_2, ix_3, ix_4, ix_5, ix_6, ix_7, ix_8, ix_9, ix_10, ix_14, ix_20, ix_24, ix_60, ix_96, ix_100, ix_120, ix_128, ix_2981, ix_3114, ix_4000]
  try rfl
theorem kc_33 : cV 98 5 [.ref 51] (k_110 L xs) = some (k_110 L xs) := i_5 (kt_33_0 L xs)
def k_111 (L : Nat) (xs : Nat → Int32) : aMem := setR (k_110 L xs) 38 6 51
def zr_111 : List (Nat × Nat × Nat) := (38, 6, 51) :: zr_109
theorem G_111 : Mk L xs 52 441 zr_111 zf_97 (k_111 L xs) := mk_setR (G_110 L xs)
theorem E_111 : setR (k_110 L xs) 38 6 51 = k_111 L xs := rfl
def k_112 (L : Nat) (xs : Nat → Int32) : aMem := newC (k_111 L xs) 1 5
theorem G_112 : Mk L xs 53 446 zr_111 zf_97 (k_112 L xs) := mk_new (G_111 L xs) (by decide +kernel) (by decide +kernel) (by decide +kernel)
theorem E_112 : newC (k_111 L xs) 1 5 = k_112 L xs := rfl
theorem kt_34_0 : Rn 98 5 (0, [.ref 52], [], k_112 L xs) = some (none, k_112 L xs) := by
  have n112 := (G_112 L xs).N
  have s112_52 : mS (k_112 L xs) 52 = (1, 5) := (G_112 L xs).S 52 (by decide)
  refine (q_5_0 98 52 (k_112 L xs)).trans ?_
  try simp only [n112, s112_52, ix_0, ix_1, ix_2, ix_3, ix_4, ix_5, ix_6, ix_7, ix_8, ix_9, ix_10, ix_14, ix_20, ix_24, ix_60, ix_96, ix_100, ix_120, ix_128, ix_2981, ix_3114, ix_4000]
  try rfl
theorem kc_34 : cV 98 5 [.ref 52] (k_112 L xs) = some (k_112 L xs) := i_5 (kt_34_0 L xs)
def k_113 (L : Nat) (xs : Nat → Int32) : aMem := setR (k_112 L xs) 38 7 52
def zr_113 : List (Nat × Nat × Nat) := (38, 7, 52) :: zr_111
theorem G_113 : Mk L xs 53 446 zr_113 zf_97 (k_113 L xs) := mk_setR (G_112 L xs)
theorem E_113 : setR (k_112 L xs) 38 7 52 = k_113 L xs := rfl
def k_114 (L : Nat) (xs : Nat → Int32) : aMem := newC (k_113 L xs) 1 5
theorem G_114 : Mk L xs 54 451 zr_113 zf_97 (k_114 L xs) := mk_new (G_113 L xs) (by decide +kernel) (by decide +kernel) (by decide +kernel)
theorem E_114 : newC (k_113 L xs) 1 5 = k_114 L xs := rfl
theorem kt_35_0 : Rn 98 5 (0, [.ref 53], [], k_114 L xs) = some (none, k_114 L xs) := by
  have n114 := (G_114 L xs).N
  have s114_53 : mS (k_114 L xs) 53 = (1, 5) := (G_114 L xs).S 53 (by decide)
  refine (q_5_0 98 53 (k_114 L xs)).trans ?_
  try simp only [n114, s114_53, ix_0, ix_1, ix_2, ix_3, ix_4, ix_5, ix_6, ix_7, ix_8, ix_9, ix_10, ix_14, ix_20, ix_24, ix_60, ix_96, ix_100, ix_120, ix_128, ix_2981, ix_3114, ix_4000]
  try rfl
theorem kc_35 : cV 98 5 [.ref 53] (k_114 L xs) = some (k_114 L xs) := i_5 (kt_35_0 L xs)
def k_115 (L : Nat) (xs : Nat → Int32) : aMem := setR (k_114 L xs) 38 8 53
def zr_115 : List (Nat × Nat × Nat) := (38, 8, 53) :: zr_113
theorem G_115 : Mk L xs 54 451 zr_115 zf_97 (k_115 L xs) := mk_setR (G_114 L xs)
theorem E_115 : setR (k_114 L xs) 38 8 53 = k_115 L xs := rfl
def k_116 (L : Nat) (xs : Nat → Int32) : aMem := newC (k_115 L xs) 1 5
theorem G_116 : Mk L xs 55 456 zr_115 zf_97 (k_116 L xs) := mk_new (G_115 L xs) (by decide +kernel) (by decide +kernel) (by decide +kernel)
theorem E_116 : newC (k_115 L xs) 1 5 = k_116 L xs := rfl
theorem kt_36_0 : Rn 98 5 (0, [.ref 54], [], k_116 L xs) = some (none, k_116 L xs) := by
  have n116 := (G_116 L xs).N
  have s116_54 : mS (k_116 L xs) 54 = (1, 5) := (G_116 L xs).S 54 (by decide)
  refine (q_5_0 98 54 (k_116 L xs)).trans ?_
  try simp only [n116, s116_54, ix_0, ix_1, ix_2, ix_3, ix_4, ix_5, ix_6, ix_7, ix_8, ix_9, ix_10, ix_14, ix_20, ix_24, ix_60, ix_96, ix_100, ix_120, ix_128, ix_2981, ix_3114, ix_4000]
  try rfl
theorem kc_36 : cV 98 5 [.ref 54] (k_116 L xs) = some (k_116 L xs) := i_5 (kt_36_0 L xs)
def k_117 (L : Nat) (xs : Nat → Int32) : aMem := setR (k_116 L xs) 38 9 54
def zr_117 : List (Nat × Nat × Nat) := (38, 9, 54) :: zr_115
theorem G_117 : Mk L xs 55 456 zr_117 zf_97 (k_117 L xs) := mk_setR (G_116 L xs)
theorem E_117 : setR (k_116 L xs) 38 9 54 = k_117 L xs := rfl
def k_118 (L : Nat) (xs : Nat → Int32) : aMem := setF (k_117 L xs) 44 0 (-1)
def zf_118 : List (Nat × Nat × Int32) := (44, 0, (-1)) :: zf_97
theorem G_118 : Mk L xs 55 456 zr_117 zf_118 (k_118 L xs) := mk_setF (G_117 L xs) (by decide)
theorem E_118 : setF (k_117 L xs) 44 0 (-1) = k_118 L xs := rfl
def k_119 (L : Nat) (xs : Nat → Int32) : aMem := setF (k_118 L xs) 44 1 (-1)
def zf_119 : List (Nat × Nat × Int32) := (44, 1, (-1)) :: zf_118
theorem G_119 : Mk L xs 55 456 zr_117 zf_119 (k_119 L xs) := mk_setF (G_118 L xs) (by decide)
theorem E_119 : setF (k_118 L xs) 44 1 (-1) = k_119 L xs := rfl
def k_120 (L : Nat) (xs : Nat → Int32) : aMem := setF (k_119 L xs) 44 2 (-1)
def zf_120 : List (Nat × Nat × Int32) := (44, 2, (-1)) :: zf_119
theorem G_120 : Mk L xs 55 456 zr_117 zf_120 (k_120 L xs) := mk_setF (G_119 L xs) (by decide)
theorem E_120 : setF (k_119 L xs) 44 2 (-1) = k_120 L xs := rfl
theorem kt_37_0 : Rn 98 231 (0, [.ref 44, .int (-1), un, un], [], k_117 L xs) = Rn 98 231 (5, [.ref 44, .int (-1), .int 0, .int 3], [], k_117 L xs) := by
  have n117 := (G_117 L xs).N
  have s117_44 : mS (k_117 L xs) 44 = (10, 3) := (G_117 L xs).S 44 (by decide)
  refine (q_231_0 98 44 (-1) (k_117 L xs)).trans ?_
  try simp only [n117, s117_44, Option.bind_some, ix_0, ix_1, ix_2, ix_3, ix_4, ix_5, ix_6, ix_7, ix_8, ix_9, ix_10, ix_14, ix_20, ix_24, ix_60, ix_96, ix_100, ix_120, ix_128, ix_2981, ix_3114, ix_4000]
  try rfl
theorem kt_37_1 : Rn 98 231 (5, [.ref 44, .int (-1), .int 0, .int 3], [], k_117 L xs) = Rn 98 231 (5, [.ref 44, .int (-1), .int 1, .int 3], [], k_118 L xs) := by
  have n117 := (G_117 L xs).N
  have s117_44 : mS (k_117 L xs) 44 = (10, 3) := (G_117 L xs).S 44 (by decide)
  have n118 := (G_118 L xs).N
  have s118_44 : mS (k_118 L xs) 44 = (10, 3) := (G_118 L xs).S 44 (by decide)
  refine (q_231_5 98 44 (-1) (0) (3) (k_117 L xs)).trans ?_
  try simp only [n117, s117_44, n118, s118_44, E_118, Option.bind_some, ix_0, ix_1, ix_2, ix_3, ix_4, ix_5, ix_6, ix_7, ix_8, ix_9, ix_10, ix_14, ix_20, ix_24, ix_60, ix_96, ix_100, ix_120, ix_128, ix_2981, ix_3114, ix_4000]
  try rfl
theorem kt_37_2 : Rn 98 231 (5, [.ref 44, .int (-1), .int 1, .int 3], [], k_118 L xs) = Rn 98 231 (5, [.ref 44, .int (-1), .int 2, .int 3], [], k_119 L xs) := by
  have n118 := (G_118 L xs).N
  have s118_44 : mS (k_118 L xs) 44 = (10, 3) := (G_118 L xs).S 44 (by decide)
  have n119 := (G_119 L xs).N
  have s119_44 : mS (k_119 L xs) 44 = (10, 3) := (G_119 L xs).S 44 (by decide)
  refine (q_231_5 98 44 (-1) (1) (3) (k_118 L xs)).trans ?_
  try simp only [n118, s118_44, n119, s119_44, E_119, Option.bind_some, ix_0, ix_1, ix_2, ix_3, ix_4, ix_5, ix_6, ix_7, ix_8, ix_9, ix_10, ix_14, ix_20, ix_24, ix_60, ix_96, ix_100, ix_120, ix_128, ix_2981, ix_3114, ix_4000]
  try rfl
theorem kt_37_3 : Rn 98 231 (5, [.ref 44, .int (-1), .int 2, .int 3], [], k_119 L xs) = Rn 98 231 (5, [.ref 44, .int (-1), .int 3, .int 3], [], k_120 L xs) := by
  have n119 := (G_119 L xs).N
  have s119_44 : mS (k_119 L xs) 44 = (10, 3) := (G_119 L xs).S 44 (by decide)
  have n120 := (G_120 L xs).N
  have s120_44 : mS (k_120 L xs) 44 = (10, 3) := (G_120 L xs).S 44 (by decide)
  refine (q_231_5 98 44 (-1) (2) (3) (k_119 L xs)).trans ?_
  try simp only [n119, s119_44, n120, s120_44, E_120, Option.bind_some, ix_0, ix_1, ix_2, ix_3, ix_4, ix_5, ix_6, ix_7, ix_8, ix_9, ix_10, ix_14, ix_20, ix_24, ix_60, ix_96, ix_100, ix_120, ix_128, ix_2981, ix_3114, ix_4000]
  try rfl
theorem kt_37_4 : Rn 98 231 (5, [.ref 44, .int (-1), .int 3, .int 3], [], k_120 L xs) = some (none, k_120 L xs) := by
  have n120 := (G_120 L xs).N
  have s120_44 : mS (k_120 L xs) 44 = (10, 3) := (G_120 L xs).S 44 (by decide)
  refine (q_231_5 98 44 (-1) (3) (3) (k_120 L xs)).trans ?_
  try simp only [n120, s120_44, Option.bind_some, ix_0, ix_1, ix_2, ix_3, ix_4, ix_5, ix_6, ix_7, ix_8, ix_9, ix_10, ix_14, ix_20, ix_24, ix_60, ix_96, ix_100, ix_120, ix_128, ix_2981, ix_3114, ix_4000]
  try rfl
theorem kc_37 : cV 98 231 [.ref 44, .int (-1)] (k_117 L xs) = some (k_120 L xs) := i_231 ((kt_37_0 L xs).trans ((kt_37_1 L xs).trans ((kt_37_2 L xs).trans ((kt_37_3 L xs).trans (kt_37_4 L xs)))))
theorem kt_38_0 : Rn 99 11 (0, [.ref 37, un], [], k_82 L xs) = Rn 99 11 (13, [.ref 37, un], [], k_84 L xs) := by
  have n82 := (G_82 L xs).N
  have s82_37 : mS (k_82 L xs) 37 = (2, 7) := (G_82 L xs).S 37 (by decide)
  have n83 := (G_83 L xs).N
  have s83_37 : mS (k_83 L xs) 37 = (2, 7) := (G_83 L xs).S 37 (by decide)
  have s83_38 : mS (k_83 L xs) 38 = (12, 10) := (G_83 L xs).S 38 (by decide)
  have n84 := (G_84 L xs).N
  have s84_37 : mS (k_84 L xs) 37 = (2, 7) := (G_84 L xs).S 37 (by decide)
  have s84_38 : mS (k_84 L xs) 38 = (12, 10) := (G_84 L xs).S 38 (by decide)
  have r84_0 : mR (k_84 L xs) 37 0 = 38 := ((G_84 L xs).R 37 0).trans (by decide +kernel)
  refine (q_11_0 98 37 (k_82 L xs)).trans ?_
  try simp only [n82, s82_37, n83, s83_37, s83_38, n84, s84_37, s84_38, r84_0, E_83, E_84, ix_0, ix_1, ix_2, ix_3, ix_4, ix_5, ix_6, ix_7, ix_8, ix_9, ix_10, ix_14, ix_20, ix_24, ix_60, ix_96, ix_100, ix_120, ix_128, ix_2981, ix_3114, ix_4000]
  try rfl
theorem kt_38_1 : Rn 99 11 (13, [.ref 37, un], [], k_84 L xs) = Rn 99 11 (24, [.ref 37, un], [], k_92 L xs) := by
  have n84 := (G_84 L xs).N
  have s84_37 : mS (k_84 L xs) 37 = (2, 7) := (G_84 L xs).S 37 (by decide)
  have n85 := (G_85 L xs).N
  have s85_37 : mS (k_85 L xs) 37 = (2, 7) := (G_85 L xs).S 37 (by decide)
  have s85_39 : mS (k_85 L xs) 39 = (0, 4) := (G_85 L xs).S 39 (by decide)
  have n91 := (G_91 L xs).N
  have s91_37 : mS (k_91 L xs) 37 = (2, 7) := (G_91 L xs).S 37 (by decide)
  have s91_39 : mS (k_91 L xs) 39 = (0, 4) := (G_91 L xs).S 39 (by decide)
  have n92 := (G_92 L xs).N
  have s92_37 : mS (k_92 L xs) 37 = (2, 7) := (G_92 L xs).S 37 (by decide)
  have s92_39 : mS (k_92 L xs) 39 = (0, 4) := (G_92 L xs).S 39 (by decide)
  have r92_2 : mR (k_92 L xs) 37 2 = 39 := ((G_92 L xs).R 37 2).trans (by decide +kernel)
  refine (q_11_13 98 37 un (k_84 L xs)).trans ?_
  try simp only [n84, s84_37, n85, s85_37, s85_39, n91, s91_37, s91_39, n92, s92_37, s92_39, r92_2, E_85, E_92, kc_26, Option.bind_some, ix_0, ix_1, ix_2, ix_3, ix_4, ix_5, ix_6, ix_7, ix_8, ix_9, ix_10, ix_14, ix_20, ix_24, ix_60, ix_96, ix_100, ix_120, ix_128, ix_2981, ix_3114, ix_4000]
  try rfl
theorem kt_38_2 : Rn 99 11 (24, [.ref 37, un], [], k_92 L xs) = Rn 99 11 (33, [.ref 37, un], [], k_94 L xs) := by
  have n92 := (G_92 L xs).N
  have s92_37 : mS (k_92 L xs) 37 = (2, 7) := (G_92 L xs).S 37 (by decide)
  have n93 := (G_93 L xs).N
  have s93_37 : mS (k_93 L xs) 37 = (2, 7) := (G_93 L xs).S 37 (by decide)
  have s93_43 : mS (k_93 L xs) 43 = (15, 14) := (G_93 L xs).S 43 (by decide)
  have n94 := (G_94 L xs).N
  have s94_37 : mS (k_94 L xs) 37 = (2, 7) := (G_94 L xs).S 37 (by decide)
  have s94_43 : mS (k_94 L xs) 43 = (15, 14) := (G_94 L xs).S 43 (by decide)
  have r94_3 : mR (k_94 L xs) 37 3 = 43 := ((G_94 L xs).R 37 3).trans (by decide +kernel)
  refine (q_11_24 98 37 un (k_92 L xs)).trans ?_
  try simp only [n92, s92_37, n93, s93_37, s93_43, n94, s94_37, s94_43, r94_3, E_93, E_94, ix_0, ix_1, ix_2, ix_3, ix_4, ix_5, ix_6, ix_7, ix_8, ix_9, ix_10, ix_14, ix_20, ix_24, ix_60, ix_96, ix_100, ix_120, ix_128, ix_2981, ix_3114, ix_4000]
  try rfl
theorem kt_38_3 : Rn 99 11 (33, [.ref 37, un], [], k_94 L xs) = Rn 99 11 (40, [.ref 37, un], [], k_96 L xs) := by
  have n94 := (G_94 L xs).N
  have s94_37 : mS (k_94 L xs) 37 = (2, 7) := (G_94 L xs).S 37 (by decide)
  have n95 := (G_95 L xs).N
  have s95_37 : mS (k_95 L xs) 37 = (2, 7) := (G_95 L xs).S 37 (by decide)
  have s95_44 : mS (k_95 L xs) 44 = (10, 3) := (G_95 L xs).S 44 (by decide)
  have n96 := (G_96 L xs).N
  have s96_37 : mS (k_96 L xs) 37 = (2, 7) := (G_96 L xs).S 37 (by decide)
  have s96_44 : mS (k_96 L xs) 44 = (10, 3) := (G_96 L xs).S 44 (by decide)
  have r96_5 : mR (k_96 L xs) 37 5 = 44 := ((G_96 L xs).R 37 5).trans (by decide +kernel)
  refine (q_11_33 98 37 un (k_94 L xs)).trans ?_
  try simp only [n94, s94_37, n95, s95_37, s95_44, n96, s96_37, s96_44, r96_5, E_95, E_96, ix_0, ix_1, ix_2, ix_3, ix_4, ix_5, ix_6, ix_7, ix_8, ix_9, ix_10, ix_14, ix_20, ix_24, ix_60, ix_96, ix_100, ix_120, ix_128, ix_2981, ix_3114, ix_4000]
  try rfl
theorem kt_38_4 : Rn 99 11 (40, [.ref 37, un], [], k_96 L xs) = Rn 99 11 (45, [.ref 37, un], [], k_97 L xs) := by
  have n96 := (G_96 L xs).N
  have s96_37 : mS (k_96 L xs) 37 = (2, 7) := (G_96 L xs).S 37 (by decide)
  have r96_5 : mR (k_96 L xs) 37 5 = 44 := ((G_96 L xs).R 37 5).trans (by decide +kernel)
  have n97 := (G_97 L xs).N
  have s97_37 : mS (k_97 L xs) 37 = (2, 7) := (G_97 L xs).S 37 (by decide)
  have r97_5 : mR (k_97 L xs) 37 5 = 44 := ((G_97 L xs).R 37 5).trans (by decide +kernel)
  refine (q_11_40 98 37 un (k_96 L xs)).trans ?_
  try simp only [n96, s96_37, r96_5, n97, s97_37, r97_5, E_97, ix_0, ix_1, ix_2, ix_3, ix_4, ix_5, ix_6, ix_7, ix_8, ix_9, ix_10, ix_14, ix_20, ix_24, ix_60, ix_96, ix_100, ix_120, ix_128, ix_2981, ix_3114, ix_4000]
  try rfl
theorem kt_38_5 : Rn 99 11 (45, [.ref 37, un], [], k_97 L xs) = Rn 99 11 (47, [.ref 37, .int 0], [], k_97 L xs) := by
  have n97 := (G_97 L xs).N
  have s97_37 : mS (k_97 L xs) 37 = (2, 7) := (G_97 L xs).S 37 (by decide)
  have r97_5 : mR (k_97 L xs) 37 5 = 44 := ((G_97 L xs).R 37 5).trans (by decide +kernel)
  refine (q_11_45 98 37 un (k_97 L xs)).trans ?_
  try simp only [n97, s97_37, r97_5, ix_0, ix_1, ix_2, ix_3, ix_4, ix_5, ix_6, ix_7, ix_8, ix_9, ix_10, ix_14, ix_20, ix_24, ix_60, ix_96, ix_100, ix_120, ix_128, ix_2981, ix_3114, ix_4000]
  try rfl
theorem kt_38_6 : Rn 99 11 (47, [.ref 37, .int 0], [], k_97 L xs) = Rn 99 11 (47, [.ref 37, .int 1], [], k_99 L xs) := by
  have n97 := (G_97 L xs).N
  have s97_37 : mS (k_97 L xs) 37 = (2, 7) := (G_97 L xs).S 37 (by decide)
  have s97_38 : mS (k_97 L xs) 38 = (12, 10) := (G_97 L xs).S 38 (by decide)
  have r97_0 : mR (k_97 L xs) 37 0 = 38 := ((G_97 L xs).R 37 0).trans (by decide +kernel)
  have r97_5 : mR (k_97 L xs) 37 5 = 44 := ((G_97 L xs).R 37 5).trans (by decide +kernel)
  have n98 := (G_98 L xs).N
  have s98_37 : mS (k_98 L xs) 37 = (2, 7) := (G_98 L xs).S 37 (by decide)
  have s98_38 : mS (k_98 L xs) 38 = (12, 10) := (G_98 L xs).S 38 (by decide)
  have s98_45 : mS (k_98 L xs) 45 = (1, 5) := (G_98 L xs).S 45 (by decide)
  have r98_0 : mR (k_98 L xs) 37 0 = 38 := ((G_98 L xs).R 37 0).trans (by decide +kernel)
  have r98_5 : mR (k_98 L xs) 37 5 = 44 := ((G_98 L xs).R 37 5).trans (by decide +kernel)
  have n99 := (G_99 L xs).N
  have s99_37 : mS (k_99 L xs) 37 = (2, 7) := (G_99 L xs).S 37 (by decide)
  have s99_38 : mS (k_99 L xs) 38 = (12, 10) := (G_99 L xs).S 38 (by decide)
  have s99_45 : mS (k_99 L xs) 45 = (1, 5) := (G_99 L xs).S 45 (by decide)
  have r99_0 : mR (k_99 L xs) 37 0 = 38 := ((G_99 L xs).R 37 0).trans (by decide +kernel)
  have r99_5 : mR (k_99 L xs) 37 5 = 44 := ((G_99 L xs).R 37 5).trans (by decide +kernel)
  refine (q_11_47 98 37 (0) (k_97 L xs)).trans ?_
  try simp only [n97, s97_37, s97_38, r97_0, r97_5, n98, s98_37, s98_38, s98_45, r98_0, r98_5, n99, s99_37, s99_38, s99_45, r99_0, r99_5, E_98, E_99, kc_27, Option.bind_some, ix_0, ix_1, ix_2, ix_3, ix_4, ix_5, ix_6, ix_7, ix_8, ix_9, ix_10, ix_14, ix_20, ix_24, ix_60, ix_96, ix_100, ix_120, ix_128, ix_2981, ix_3114, ix_4000]
  try rfl
theorem kt_38_7 : Rn 99 11 (47, [.ref 37, .int 1], [], k_99 L xs) = Rn 99 11 (47, [.ref 37, .int 2], [], k_101 L xs) := by
  have n99 := (G_99 L xs).N
  have s99_37 : mS (k_99 L xs) 37 = (2, 7) := (G_99 L xs).S 37 (by decide)
  have s99_38 : mS (k_99 L xs) 38 = (12, 10) := (G_99 L xs).S 38 (by decide)
  have r99_0 : mR (k_99 L xs) 37 0 = 38 := ((G_99 L xs).R 37 0).trans (by decide +kernel)
  have r99_5 : mR (k_99 L xs) 37 5 = 44 := ((G_99 L xs).R 37 5).trans (by decide +kernel)
  have n100 := (G_100 L xs).N
  have s100_37 : mS (k_100 L xs) 37 = (2, 7) := (G_100 L xs).S 37 (by decide)
  have s100_38 : mS (k_100 L xs) 38 = (12, 10) := (G_100 L xs).S 38 (by decide)
  have s100_46 : mS (k_100 L xs) 46 = (1, 5) := (G_100 L xs).S 46 (by decide)
  have r100_0 : mR (k_100 L xs) 37 0 = 38 := ((G_100 L xs).R 37 0).trans (by decide +kernel)
  have r100_5 : mR (k_100 L xs) 37 5 = 44 := ((G_100 L xs).R 37 5).trans (by decide +kernel)
  have n101 := (G_101 L xs).N
  have s101_37 : mS (k_101 L xs) 37 = (2, 7) := (G_101 L xs).S 37 (by decide)
  have s101_38 : mS (k_101 L xs) 38 = (12, 10) := (G_101 L xs).S 38 (by decide)
  have s101_46 : mS (k_101 L xs) 46 = (1, 5) := (G_101 L xs).S 46 (by decide)
  have r101_0 : mR (k_101 L xs) 37 0 = 38 := ((G_101 L xs).R 37 0).trans (by decide +kernel)
  have r101_5 : mR (k_101 L xs) 37 5 = 44 := ((G_101 L xs).R 37 5).trans (by decide +kernel)
  refine (q_11_47 98 37 (1) (k_99 L xs)).trans ?_
  try simp only [n99, s99_37, s99_38, r99_0, r99_5, n100, s100_37, s100_38, s100_46, r100_0, r100_5, n101, s101_37, s101_38, s101_46, r101_0, r101_5, E_100, E_101, kc_28, Option.bind_some, ix_0, ix_1, ix_2, ix_3, ix_4, ix_5, ix_6, ix_7, ix_8, ix_9, ix_10, ix_14, ix_20, ix_24, ix_60, ix_96, ix_100, ix_120, ix_128, ix_2981, ix_3114, ix_4000]
  try rfl
theorem kt_38_8 : Rn 99 11 (47, [.ref 37, .int 2], [], k_101 L xs) = Rn 99 11 (47, [.ref 37, .int 3], [], k_103 L xs) := by
  have n101 := (G_101 L xs).N
  have s101_37 : mS (k_101 L xs) 37 = (2, 7) := (G_101 L xs).S 37 (by decide)
  have s101_38 : mS (k_101 L xs) 38 = (12, 10) := (G_101 L xs).S 38 (by decide)
  have r101_0 : mR (k_101 L xs) 37 0 = 38 := ((G_101 L xs).R 37 0).trans (by decide +kernel)
  have r101_5 : mR (k_101 L xs) 37 5 = 44 := ((G_101 L xs).R 37 5).trans (by decide +kernel)
  have n102 := (G_102 L xs).N
  have s102_37 : mS (k_102 L xs) 37 = (2, 7) := (G_102 L xs).S 37 (by decide)
  have s102_38 : mS (k_102 L xs) 38 = (12, 10) := (G_102 L xs).S 38 (by decide)
  have s102_47 : mS (k_102 L xs) 47 = (1, 5) := (G_102 L xs).S 47 (by decide)
  have r102_0 : mR (k_102 L xs) 37 0 = 38 := ((G_102 L xs).R 37 0).trans (by decide +kernel)
  have r102_5 : mR (k_102 L xs) 37 5 = 44 := ((G_102 L xs).R 37 5).trans (by decide +kernel)
  have n103 := (G_103 L xs).N
  have s103_37 : mS (k_103 L xs) 37 = (2, 7) := (G_103 L xs).S 37 (by decide)
  have s103_38 : mS (k_103 L xs) 38 = (12, 10) := (G_103 L xs).S 38 (by decide)
  have s103_47 : mS (k_103 L xs) 47 = (1, 5) := (G_103 L xs).S 47 (by decide)
  have r103_0 : mR (k_103 L xs) 37 0 = 38 := ((G_103 L xs).R 37 0).trans (by decide +kernel)
  have r103_5 : mR (k_103 L xs) 37 5 = 44 := ((G_103 L xs).R 37 5).trans (by decide +kernel)
  refine (q_11_47 98 37 (2) (k_101 L xs)).trans ?_
  try simp only [n101, s101_37, s101_38, r101_0, r101_5, n102, s102_37, s102_38, s102_47, r102_0, r102_5, n103, s103_37, s103_38, s103_47, r103_0, r103_5, E_102, E_103, kc_29, Option.bind_some, ix_0, ix_1, ix_2, ix_3, ix_4, ix_5, ix_6, ix_7, ix_8, ix_9, ix_10, ix_14, ix_20, ix_24, ix_60, ix_96, ix_100, ix_120, ix_128, ix_2981, ix_3114, ix_4000]
  try rfl
theorem kt_38_9 : Rn 99 11 (47, [.ref 37, .int 3], [], k_103 L xs) = Rn 99 11 (47, [.ref 37, .int 4], [], k_105 L xs) := by
  have n103 := (G_103 L xs).N
  have s103_37 : mS (k_103 L xs) 37 = (2, 7) := (G_103 L xs).S 37 (by decide)
  have s103_38 : mS (k_103 L xs) 38 = (12, 10) := (G_103 L xs).S 38 (by decide)
  have r103_0 : mR (k_103 L xs) 37 0 = 38 := ((G_103 L xs).R 37 0).trans (by decide +kernel)
  have r103_5 : mR (k_103 L xs) 37 5 = 44 := ((G_103 L xs).R 37 5).trans (by decide +kernel)
  have n104 := (G_104 L xs).N
  have s104_37 : mS (k_104 L xs) 37 = (2, 7) := (G_104 L xs).S 37 (by decide)
  have s104_38 : mS (k_104 L xs) 38 = (12, 10) := (G_104 L xs).S 38 (by decide)
  have s104_48 : mS (k_104 L xs) 48 = (1, 5) := (G_104 L xs).S 48 (by decide)
  have r104_0 : mR (k_104 L xs) 37 0 = 38 := ((G_104 L xs).R 37 0).trans (by decide +kernel)
  have r104_5 : mR (k_104 L xs) 37 5 = 44 := ((G_104 L xs).R 37 5).trans (by decide +kernel)
  have n105 := (G_105 L xs).N
  have s105_37 : mS (k_105 L xs) 37 = (2, 7) := (G_105 L xs).S 37 (by decide)
  have s105_38 : mS (k_105 L xs) 38 = (12, 10) := (G_105 L xs).S 38 (by decide)
  have s105_48 : mS (k_105 L xs) 48 = (1, 5) := (G_105 L xs).S 48 (by decide)
  have r105_0 : mR (k_105 L xs) 37 0 = 38 := ((G_105 L xs).R 37 0).trans (by decide +kernel)
  have r105_5 : mR (k_105 L xs) 37 5 = 44 := ((G_105 L xs).R 37 5).trans (by decide +kernel)
  refine (q_11_47 98 37 (3) (k_103 L xs)).trans ?_
  try simp only [n103, s103_37, s103_38, r103_0, r103_5, n104, s104_37, s104_38, s104_48, r104_0, r104_5, n105, s105_37, s105_38, s105_48, r105_0, r105_5, E_104, E_105, kc_30, Option.bind_some, ix_0, ix_1, ix_2, ix_3, ix_4, ix_5, ix_6, ix_7, ix_8, ix_9, ix_10, ix_14, ix_20, ix_24, ix_60, ix_96, ix_100, ix_120, ix_128, ix_2981, ix_3114, ix_4000]
  try rfl
theorem kt_38_10 : Rn 99 11 (47, [.ref 37, .int 4], [], k_105 L xs) = Rn 99 11 (47, [.ref 37, .int 5], [], k_107 L xs) := by
  have n105 := (G_105 L xs).N
  have s105_37 : mS (k_105 L xs) 37 = (2, 7) := (G_105 L xs).S 37 (by decide)
  have s105_38 : mS (k_105 L xs) 38 = (12, 10) := (G_105 L xs).S 38 (by decide)
  have r105_0 : mR (k_105 L xs) 37 0 = 38 := ((G_105 L xs).R 37 0).trans (by decide +kernel)
  have r105_5 : mR (k_105 L xs) 37 5 = 44 := ((G_105 L xs).R 37 5).trans (by decide +kernel)
  have n106 := (G_106 L xs).N
  have s106_37 : mS (k_106 L xs) 37 = (2, 7) := (G_106 L xs).S 37 (by decide)
  have s106_38 : mS (k_106 L xs) 38 = (12, 10) := (G_106 L xs).S 38 (by decide)
  have s106_49 : mS (k_106 L xs) 49 = (1, 5) := (G_106 L xs).S 49 (by decide)
  have r106_0 : mR (k_106 L xs) 37 0 = 38 := ((G_106 L xs).R 37 0).trans (by decide +kernel)
  have r106_5 : mR (k_106 L xs) 37 5 = 44 := ((G_106 L xs).R 37 5).trans (by decide +kernel)
  have n107 := (G_107 L xs).N
  have s107_37 : mS (k_107 L xs) 37 = (2, 7) := (G_107 L xs).S 37 (by decide)
  have s107_38 : mS (k_107 L xs) 38 = (12, 10) := (G_107 L xs).S 38 (by decide)
  have s107_49 : mS (k_107 L xs) 49 = (1, 5) := (G_107 L xs).S 49 (by decide)
  have r107_0 : mR (k_107 L xs) 37 0 = 38 := ((G_107 L xs).R 37 0).trans (by decide +kernel)
  have r107_5 : mR (k_107 L xs) 37 5 = 44 := ((G_107 L xs).R 37 5).trans (by decide +kernel)
  refine (q_11_47 98 37 (4) (k_105 L xs)).trans ?_
  try simp only [n105, s105_37, s105_38, r105_0, r105_5, n106, s106_37, s106_38, s106_49, r106_0, r106_5, n107, s107_37, s107_38, s107_49, r107_0, r107_5, E_106, E_107, kc_31, Option.bind_some, ix_0, ix_1, ix_2, ix_3, ix_4, ix_5, ix_6, ix_7, ix_8, ix_9, ix_10, ix_14, ix_20, ix_24, ix_60, ix_96, ix_100, ix_120, ix_128, ix_2981, ix_3114, ix_4000]
  try rfl
theorem kt_38_11 : Rn 99 11 (47, [.ref 37, .int 5], [], k_107 L xs) = Rn 99 11 (47, [.ref 37, .int 6], [], k_109 L xs) := by
  have n107 := (G_107 L xs).N
  have s107_37 : mS (k_107 L xs) 37 = (2, 7) := (G_107 L xs).S 37 (by decide)
  have s107_38 : mS (k_107 L xs) 38 = (12, 10) := (G_107 L xs).S 38 (by decide)
  have r107_0 : mR (k_107 L xs) 37 0 = 38 := ((G_107 L xs).R 37 0).trans (by decide +kernel)
  have r107_5 : mR (k_107 L xs) 37 5 = 44 := ((G_107 L xs).R 37 5).trans (by decide +kernel)
  have n108 := (G_108 L xs).N
  have s108_37 : mS (k_108 L xs) 37 = (2, 7) := (G_108 L xs).S 37 (by decide)
  have s108_38 : mS (k_108 L xs) 38 = (12, 10) := (G_108 L xs).S 38 (by decide)
  have s108_50 : mS (k_108 L xs) 50 = (1, 5) := (G_108 L xs).S 50 (by decide)
  have r108_0 : mR (k_108 L xs) 37 0 = 38 := ((G_108 L xs).R 37 0).trans (by decide +kernel)
  have r108_5 : mR (k_108 L xs) 37 5 = 44 := ((G_108 L xs).R 37 5).trans (by decide +kernel)
  have n109 := (G_109 L xs).N
  have s109_37 : mS (k_109 L xs) 37 = (2, 7) := (G_109 L xs).S 37 (by decide)
  have s109_38 : mS (k_109 L xs) 38 = (12, 10) := (G_109 L xs).S 38 (by decide)
  have s109_50 : mS (k_109 L xs) 50 = (1, 5) := (G_109 L xs).S 50 (by decide)
  have r109_0 : mR (k_109 L xs) 37 0 = 38 := ((G_109 L xs).R 37 0).trans (by decide +kernel)
  have r109_5 : mR (k_109 L xs) 37 5 = 44 := ((G_109 L xs).R 37 5).trans (by decide +kernel)
  refine (q_11_47 98 37 (5) (k_107 L xs)).trans ?_
  try simp only [n107, s107_37, s107_38, r107_0, r107_5, n108, s108_37, s108_38, s108_50, r108_0, r108_5, n109, s109_37, s109_38, s109_50, r109_0, r109_5, E_108, E_109, kc_32, Option.bind_some, ix_0, ix_1, ix_2, ix_3, ix_4, ix_5, ix_6, ix_7, ix_8, ix_9, ix_10, ix_14, ix_20, ix_24, ix_60, ix_96, ix_100, ix_120, ix_128, ix_2981, ix_3114, ix_4000]
  try rfl
theorem kt_38_12 : Rn 99 11 (47, [.ref 37, .int 6], [], k_109 L xs) = Rn 99 11 (47, [.ref 37, .int 7], [], k_111 L xs) := by
  have n109 := (G_109 L xs).N
  have s109_37 : mS (k_109 L xs) 37 = (2, 7) := (G_109 L xs).S 37 (by decide)
  have s109_38 : mS (k_109 L xs) 38 = (12, 10) := (G_109 L xs).S 38 (by decide)
  have r109_0 : mR (k_109 L xs) 37 0 = 38 := ((G_109 L xs).R 37 0).trans (by decide +kernel)
  have r109_5 : mR (k_109 L xs) 37 5 = 44 := ((G_109 L xs).R 37 5).trans (by decide +kernel)
  have n110 := (G_110 L xs).N
  have s110_37 : mS (k_110 L xs) 37 = (2, 7) := (G_110 L xs).S 37 (by decide)
  have s110_38 : mS (k_110 L xs) 38 = (12, 10) := (G_110 L xs).S 38 (by decide)
  have s110_51 : mS (k_110 L xs) 51 = (1, 5) := (G_110 L xs).S 51 (by decide)
  have r110_0 : mR (k_110 L xs) 37 0 = 38 := ((G_110 L xs).R 37 0).trans (by decide +kernel)
  have r110_5 : mR (k_110 L xs) 37 5 = 44 := ((G_110 L xs).R 37 5).trans (by decide +kernel)
  have n111 := (G_111 L xs).N
  have s111_37 : mS (k_111 L xs) 37 = (2, 7) := (G_111 L xs).S 37 (by decide)
  have s111_38 : mS (k_111 L xs) 38 = (12, 10) := (G_111 L xs).S 38 (by decide)
  have s111_51 : mS (k_111 L xs) 51 = (1, 5) := (G_111 L xs).S 51 (by decide)
  have r111_0 : mR (k_111 L xs) 37 0 = 38 := ((G_111 L xs).R 37 0).trans (by decide +kernel)
  have r111_5 : mR (k_111 L xs) 37 5 = 44 := ((G_111 L xs).R 37 5).trans (by decide +kernel)
  refine (q_11_47 98 37 (6) (k_109 L xs)).trans ?_
  try simp only [n109, s109_37, s109_38, r109_0, r109_5, n110, s110_37, s110_38, s110_51, r110_0, r110_5, n111, s111_37, s111_38, s111_51, r111_0, r111_5, E_110, E_111, kc_33, Option.bind_some, ix_0, ix_1, ix_2, ix_3, ix_4, ix_5, ix_6, ix_7, ix_8, ix_9, ix_10, ix_14, ix_20, ix_24, ix_60, ix_96, ix_100, ix_120, ix_128, ix_2981, ix_3114, ix_4000]
  try rfl
theorem kt_38_13 : Rn 99 11 (47, [.ref 37, .int 7], [], k_111 L xs) = Rn 99 11 (47, [.ref 37, .int 8], [], k_113 L xs) := by
  have n111 := (G_111 L xs).N
  have s111_37 : mS (k_111 L xs) 37 = (2, 7) := (G_111 L xs).S 37 (by decide)
  have s111_38 : mS (k_111 L xs) 38 = (12, 10) := (G_111 L xs).S 38 (by decide)
  have r111_0 : mR (k_111 L xs) 37 0 = 38 := ((G_111 L xs).R 37 0).trans (by decide +kernel)
  have r111_5 : mR (k_111 L xs) 37 5 = 44 := ((G_111 L xs).R 37 5).trans (by decide +kernel)
  have n112 := (G_112 L xs).N
  have s112_37 : mS (k_112 L xs) 37 = (2, 7) := (G_112 L xs).S 37 (by decide)
  have s112_38 : mS (k_112 L xs) 38 = (12, 10) := (G_112 L xs).S 38 (by decide)
  have s112_52 : mS (k_112 L xs) 52 = (1, 5) := (G_112 L xs).S 52 (by decide)
  have r112_0 : mR (k_112 L xs) 37 0 = 38 := ((G_112 L xs).R 37 0).trans (by decide +kernel)
  have r112_5 : mR (k_112 L xs) 37 5 = 44 := ((G_112 L xs).R 37 5).trans (by decide +kernel)
  have n113 := (G_113 L xs).N
  have s113_37 : mS (k_113 L xs) 37 = (2, 7) := (G_113 L xs).S 37 (by decide)
  have s113_38 : mS (k_113 L xs) 38 = (12, 10) := (G_113 L xs).S 38 (by decide)
  have s113_52 : mS (k_113 L xs) 52 = (1, 5) := (G_113 L xs).S 52 (by decide)
  have r113_0 : mR (k_113 L xs) 37 0 = 38 := ((G_113 L xs).R 37 0).trans (by decide +kernel)
  have r113_5 : mR (k_113 L xs) 37 5 = 44 := ((G_113 L xs).R 37 5).trans (by decide +kernel)
  refine (q_11_47 98 37 (7) (k_111 L xs)).trans ?_
  try simp only [n111, s111_37, s111_38, r111_0, r111_5, n112, s112_37, s112_38, s112_52, r112_0, r112_5, n113, s113_37, s113_38, s113_52, r113_0, r113_5, E_112, E_113, kc_34, Option.bind_some, ix_0, ix_1, ix_2, ix_3, ix_4, ix_5, ix_6, ix_7, ix_8, ix_9, ix_10, ix_14, ix_20, ix_24, ix_60, ix_96, ix_100, ix_120, ix_128, ix_2981, ix_3114, ix_4000]
  try rfl
theorem kt_38_14 : Rn 99 11 (47, [.ref 37, .int 8], [], k_113 L xs) = Rn 99 11 (47, [.ref 37, .int 9], [], k_115 L xs) := by
  have n113 := (G_113 L xs).N
  have s113_37 : mS (k_113 L xs) 37 = (2, 7) := (G_113 L xs).S 37 (by decide)
  have s113_38 : mS (k_113 L xs) 38 = (12, 10) := (G_113 L xs).S 38 (by decide)
  have r113_0 : mR (k_113 L xs) 37 0 = 38 := ((G_113 L xs).R 37 0).trans (by decide +kernel)
  have r113_5 : mR (k_113 L xs) 37 5 = 44 := ((G_113 L xs).R 37 5).trans (by decide +kernel)
  have n114 := (G_114 L xs).N
  have s114_37 : mS (k_114 L xs) 37 = (2, 7) := (G_114 L xs).S 37 (by decide)
  have s114_38 : mS (k_114 L xs) 38 = (12, 10) := (G_114 L xs).S 38 (by decide)
  have s114_53 : mS (k_114 L xs) 53 = (1, 5) := (G_114 L xs).S 53 (by decide)
  have r114_0 : mR (k_114 L xs) 37 0 = 38 := ((G_114 L xs).R 37 0).trans (by decide +kernel)
  have r114_5 : mR (k_114 L xs) 37 5 = 44 := ((G_114 L xs).R 37 5).trans (by decide +kernel)
  have n115 := (G_115 L xs).N
  have s115_37 : mS (k_115 L xs) 37 = (2, 7) := (G_115 L xs).S 37 (by decide)
  have s115_38 : mS (k_115 L xs) 38 = (12, 10) := (G_115 L xs).S 38 (by decide)
  have s115_53 : mS (k_115 L xs) 53 = (1, 5) := (G_115 L xs).S 53 (by decide)
  have r115_0 : mR (k_115 L xs) 37 0 = 38 := ((G_115 L xs).R 37 0).trans (by decide +kernel)
  have r115_5 : mR (k_115 L xs) 37 5 = 44 := ((G_115 L xs).R 37 5).trans (by decide +kernel)
  refine (q_11_47 98 37 (8) (k_113 L xs)).trans ?_
  try simp only [n113, s113_37, s113_38, r113_0, r113_5, n114, s114_37, s114_38, s114_53, r114_0, r114_5, n115, s115_37, s115_38, s115_53, r115_0, r115_5, E_114, E_115, kc_35, Option.bind_some, ix_0, ix_1, ix_2, ix_3, ix_4, ix_5, ix_6, ix_7, ix_8, ix_9, ix_10, ix_14, ix_20, ix_24, ix_60, ix_96, ix_100, ix_120, ix_128, ix_2981, ix_3114, ix_4000]
  try rfl
theorem kt_38_15 : Rn 99 11 (47, [.ref 37, .int 9], [], k_115 L xs) = Rn 99 11 (47, [.ref 37, .int 10], [], k_117 L xs) := by
  have n115 := (G_115 L xs).N
  have s115_37 : mS (k_115 L xs) 37 = (2, 7) := (G_115 L xs).S 37 (by decide)
  have s115_38 : mS (k_115 L xs) 38 = (12, 10) := (G_115 L xs).S 38 (by decide)
  have r115_0 : mR (k_115 L xs) 37 0 = 38 := ((G_115 L xs).R 37 0).trans (by decide +kernel)
  have r115_5 : mR (k_115 L xs) 37 5 = 44 := ((G_115 L xs).R 37 5).trans (by decide +kernel)
  have n116 := (G_116 L xs).N
  have s116_37 : mS (k_116 L xs) 37 = (2, 7) := (G_116 L xs).S 37 (by decide)
  have s116_38 : mS (k_116 L xs) 38 = (12, 10) := (G_116 L xs).S 38 (by decide)
  have s116_54 : mS (k_116 L xs) 54 = (1, 5) := (G_116 L xs).S 54 (by decide)
  have r116_0 : mR (k_116 L xs) 37 0 = 38 := ((G_116 L xs).R 37 0).trans (by decide +kernel)
  have r116_5 : mR (k_116 L xs) 37 5 = 44 := ((G_116 L xs).R 37 5).trans (by decide +kernel)
  have n117 := (G_117 L xs).N
  have s117_37 : mS (k_117 L xs) 37 = (2, 7) := (G_117 L xs).S 37 (by decide)
  have s117_38 : mS (k_117 L xs) 38 = (12, 10) := (G_117 L xs).S 38 (by decide)
  have s117_54 : mS (k_117 L xs) 54 = (1, 5) := (G_117 L xs).S 54 (by decide)
  have r117_0 : mR (k_117 L xs) 37 0 = 38 := ((G_117 L xs).R 37 0).trans (by decide +kernel)
  have r117_5 : mR (k_117 L xs) 37 5 = 44 := ((G_117 L xs).R 37 5).trans (by decide +kernel)
  refine (q_11_47 98 37 (9) (k_115 L xs)).trans ?_
  try simp only [n115, s115_37, s115_38, r115_0, r115_5, n116, s116_37, s116_38, s116_54, r116_0, r116_5, n117, s117_37, s117_38, s117_54, r117_0, r117_5, E_116, E_117, kc_36, Option.bind_some, ix_0, ix_1, ix_2, ix_3, ix_4, ix_5, ix_6, ix_7, ix_8, ix_9, ix_10, ix_14, ix_20, ix_24, ix_60, ix_96, ix_100, ix_120, ix_128, ix_2981, ix_3114, ix_4000]
  try rfl
theorem kt_38_16 : Rn 99 11 (47, [.ref 37, .int 10], [], k_117 L xs) = some (none, k_120 L xs) := by
  have n117 := (G_117 L xs).N
  have s117_37 : mS (k_117 L xs) 37 = (2, 7) := (G_117 L xs).S 37 (by decide)
  have r117_5 : mR (k_117 L xs) 37 5 = 44 := ((G_117 L xs).R 37 5).trans (by decide +kernel)
  have n120 := (G_120 L xs).N
  have s120_37 : mS (k_120 L xs) 37 = (2, 7) := (G_120 L xs).S 37 (by decide)
  have r120_5 : mR (k_120 L xs) 37 5 = 44 := ((G_120 L xs).R 37 5).trans (by decide +kernel)
  refine (q_11_47 98 37 (10) (k_117 L xs)).trans ?_
  try simp only [n117, s117_37, r117_5, n120, s120_37, r120_5, kc_37, Option.bind_some, ix_0, ix_1, ix_2, ix_3, ix_4, ix_5, ix_6, ix_7, ix_8, ix_9, ix_10, ix_14, ix_20, ix_24, ix_60, ix_96, ix_100, ix_120, ix_128, ix_2981, ix_3114, ix_4000]
  try rfl
theorem kc_38 : cV 99 11 [.ref 37] (k_82 L xs) = some (k_120 L xs) := i_11 ((kt_38_0 L xs).trans ((kt_38_1 L xs).trans ((kt_38_2 L xs).trans ((kt_38_3 L xs).trans ((kt_38_4 L xs).trans ((kt_38_5 L xs).trans ((kt_38_6 L xs).trans ((kt_38_7 L xs).trans ((kt_38_8 L xs).trans ((kt_38_9 L xs).trans ((kt_38_10 L xs).trans ((kt_38_11 L xs).trans ((kt_38_12 L xs).trans ((kt_38_13 L xs).trans ((kt_38_14 L xs).trans ((kt_38_15 L xs).trans (kt_38_16 L xs)))))))))))))))))
def k_121 (L : Nat) (xs : Nat → Int32) : aMem := setR (k_120 L xs) 0 2 37
def zr_121 : List (Nat × Nat × Nat) := (0, 2, 37) :: zr_117
theorem G_121 : Mk L xs 55 456 zr_121 zf_120 (k_121 L xs) := mk_setR (G_120 L xs)
theorem E_121 : setR (k_120 L xs) 0 2 37 = k_121 L xs := rfl
def k_122 (L : Nat) (xs : Nat → Int32) : aMem := setF (k_121 L xs) 0 3 0
def zf_122 : List (Nat × Nat × Int32) := (0, 3, 0) :: zf_120
theorem G_122 : Mk L xs 55 456 zr_121 zf_122 (k_122 L xs) := mk_setF (G_121 L xs) (by decide)
theorem E_122 : setF (k_121 L xs) 0 3 0 = k_122 L xs := rfl
def k_123 (L : Nat) (xs : Nat → Int32) : aMem := newC (k_122 L xs) 4 10
theorem G_123 : Mk L xs 56 466 zr_121 zf_122 (k_123 L xs) := mk_new (G_122 L xs) (by decide +kernel) (by decide +kernel) (by decide +kernel)
theorem E_123 : newC (k_122 L xs) 4 10 = k_123 L xs := rfl
def k_124 (L : Nat) (xs : Nat → Int32) : aMem := newC (k_123 L xs) 10 10
theorem G_124 : Mk L xs 57 476 zr_121 zf_122 (k_124 L xs) := mk_new (G_123 L xs) (by decide +kernel) (by decide +kernel) (by decide +kernel)
theorem E_124 : newC (k_123 L xs) 10 10 = k_124 L xs := rfl
def k_125 (L : Nat) (xs : Nat → Int32) : aMem := setR (k_124 L xs) 55 0 56
def zr_125 : List (Nat × Nat × Nat) := (55, 0, 56) :: zr_121
theorem G_125 : Mk L xs 57 476 zr_125 zf_122 (k_125 L xs) := mk_setR (G_124 L xs)
theorem E_125 : setR (k_124 L xs) 55 0 56 = k_125 L xs := rfl
def k_126 (L : Nat) (xs : Nat → Int32) : aMem := newC (k_125 L xs) 10 10
theorem G_126 : Mk L xs 58 486 zr_125 zf_122 (k_126 L xs) := mk_new (G_125 L xs) (by decide +kernel) (by decide +kernel) (by decide +kernel)
theorem E_126 : newC (k_125 L xs) 10 10 = k_126 L xs := rfl
def k_127 (L : Nat) (xs : Nat → Int32) : aMem := setR (k_126 L xs) 55 1 57
def zr_127 : List (Nat × Nat × Nat) := (55, 1, 57) :: zr_125
theorem G_127 : Mk L xs 58 486 zr_127 zf_122 (k_127 L xs) := mk_setR (G_126 L xs)
theorem E_127 : setR (k_126 L xs) 55 1 57 = k_127 L xs := rfl
def k_128 (L : Nat) (xs : Nat → Int32) : aMem := newC (k_127 L xs) 10 10
theorem G_128 : Mk L xs 59 496 zr_127 zf_122 (k_128 L xs) := mk_new (G_127 L xs) (by decide +kernel) (by decide +kernel) (by decide +kernel)
theorem E_128 : newC (k_127 L xs) 10 10 = k_128 L xs := rfl
def k_129 (L : Nat) (xs : Nat → Int32) : aMem := setR (k_128 L xs) 55 2 58
def zr_129 : List (Nat × Nat × Nat) := (55, 2, 58) :: zr_127
theorem G_129 : Mk L xs 59 496 zr_129 zf_122 (k_129 L xs) := mk_setR (G_128 L xs)
theorem E_129 : setR (k_128 L xs) 55 2 58 = k_129 L xs := rfl
def k_130 (L : Nat) (xs : Nat → Int32) : aMem := newC (k_129 L xs) 10 10
theorem G_130 : Mk L xs 60 506 zr_129 zf_122 (k_130 L xs) := mk_new (G_129 L xs) (by decide +kernel) (by decide +kernel) (by decide +kernel)
theorem E_130 : newC (k_129 L xs) 10 10 = k_130 L xs := rfl
def k_131 (L : Nat) (xs : Nat → Int32) : aMem := setR (k_130 L xs) 55 3 59
def zr_131 : List (Nat × Nat × Nat) := (55, 3, 59) :: zr_129
theorem G_131 : Mk L xs 60 506 zr_131 zf_122 (k_131 L xs) := mk_setR (G_130 L xs)
theorem E_131 : setR (k_130 L xs) 55 3 59 = k_131 L xs := rfl
def k_132 (L : Nat) (xs : Nat → Int32) : aMem := newC (k_131 L xs) 10 10
theorem G_132 : Mk L xs 61 516 zr_131 zf_122 (k_132 L xs) := mk_new (G_131 L xs) (by decide +kernel) (by decide +kernel) (by decide +kernel)
theorem E_132 : newC (k_131 L xs) 10 10 = k_132 L xs := rfl
def k_133 (L : Nat) (xs : Nat → Int32) : aMem := setR (k_132 L xs) 55 4 60
def zr_133 : List (Nat × Nat × Nat) := (55, 4, 60) :: zr_131
theorem G_133 : Mk L xs 61 516 zr_133 zf_122 (k_133 L xs) := mk_setR (G_132 L xs)
theorem E_133 : setR (k_132 L xs) 55 4 60 = k_133 L xs := rfl
def k_134 (L : Nat) (xs : Nat → Int32) : aMem := newC (k_133 L xs) 10 10
theorem G_134 : Mk L xs 62 526 zr_133 zf_122 (k_134 L xs) := mk_new (G_133 L xs) (by decide +kernel) (by decide +kernel) (by decide +kernel)
theorem E_134 : newC (k_133 L xs) 10 10 = k_134 L xs := rfl
def k_135 (L : Nat) (xs : Nat → Int32) : aMem := setR (k_134 L xs) 55 5 61
def zr_135 : List (Nat × Nat × Nat) := (55, 5, 61) :: zr_133
theorem G_135 : Mk L xs 62 526 zr_135 zf_122 (k_135 L xs) := mk_setR (G_134 L xs)
theorem E_135 : setR (k_134 L xs) 55 5 61 = k_135 L xs := rfl
def k_136 (L : Nat) (xs : Nat → Int32) : aMem := newC (k_135 L xs) 10 96
theorem G_136 : Mk L xs 63 622 zr_135 zf_122 (k_136 L xs) := mk_new (G_135 L xs) (by decide +kernel) (by decide +kernel) (by decide +kernel)
theorem E_136 : newC (k_135 L xs) 10 96 = k_136 L xs := rfl
def k_137 (L : Nat) (xs : Nat → Int32) : aMem := setR (k_136 L xs) 55 6 62
def zr_137 : List (Nat × Nat × Nat) := (55, 6, 62) :: zr_135
theorem G_137 : Mk L xs 63 622 zr_137 zf_122 (k_137 L xs) := mk_setR (G_136 L xs)
theorem E_137 : setR (k_136 L xs) 55 6 62 = k_137 L xs := rfl
def k_138 (L : Nat) (xs : Nat → Int32) : aMem := newC (k_137 L xs) 11 2981
theorem G_138 : Mk L xs 64 3603 zr_137 zf_122 (k_138 L xs) := mk_new (G_137 L xs) (by decide +kernel) (by decide +kernel) (by decide +kernel)
theorem E_138 : newC (k_137 L xs) 11 2981 = k_138 L xs := rfl
def k_139 (L : Nat) (xs : Nat → Int32) : aMem := setR (k_138 L xs) 55 7 63
def zr_139 : List (Nat × Nat × Nat) := (55, 7, 63) :: zr_137
theorem G_139 : Mk L xs 64 3603 zr_139 zf_122 (k_139 L xs) := mk_setR (G_138 L xs)
theorem E_139 : setR (k_138 L xs) 55 7 63 = k_139 L xs := rfl
theorem kt_39_0 : Rn 99 38 (0, [.ref 55], [], k_123 L xs) = Rn 99 38 (12, [.ref 55], [], k_125 L xs) := by
  have n123 := (G_123 L xs).N
  have s123_55 : mS (k_123 L xs) 55 = (4, 10) := (G_123 L xs).S 55 (by decide)
  have n124 := (G_124 L xs).N
  have s124_55 : mS (k_124 L xs) 55 = (4, 10) := (G_124 L xs).S 55 (by decide)
  have s124_56 : mS (k_124 L xs) 56 = (10, 10) := (G_124 L xs).S 56 (by decide)
  have n125 := (G_125 L xs).N
  have s125_55 : mS (k_125 L xs) 55 = (4, 10) := (G_125 L xs).S 55 (by decide)
  have s125_56 : mS (k_125 L xs) 56 = (10, 10) := (G_125 L xs).S 56 (by decide)
  have r125_0 : mR (k_125 L xs) 55 0 = 56 := ((G_125 L xs).R 55 0).trans (by decide +kernel)
  refine (q_38_0 99 55 (k_123 L xs)).trans ?_
  try simp only [n123, s123_55, n124, s124_55, s124_56, n125, s125_55, s125_56, r125_0, E_124, E_125, ix_0, ix_1, ix_2, ix_3, ix_4, ix_5, ix_6, ix_7, ix_8, ix_9, ix_10, ix_14, ix_20, ix_24, ix_60, ix_96, ix_100, ix_120, ix_128, ix_2981, ix_3114, ix_4000]
  try rfl
theorem kt_39_1 : Rn 99 38 (12, [.ref 55], [], k_125 L xs) = Rn 99 38 (20, [.ref 55], [], k_127 L xs) := by
  have n125 := (G_125 L xs).N
  have s125_55 : mS (k_125 L xs) 55 = (4, 10) := (G_125 L xs).S 55 (by decide)
  have n126 := (G_126 L xs).N
  have s126_55 : mS (k_126 L xs) 55 = (4, 10) := (G_126 L xs).S 55 (by decide)
  have s126_57 : mS (k_126 L xs) 57 = (10, 10) := (G_126 L xs).S 57 (by decide)
  have n127 := (G_127 L xs).N
  have s127_55 : mS (k_127 L xs) 55 = (4, 10) := (G_127 L xs).S 55 (by decide)
  have s127_57 : mS (k_127 L xs) 57 = (10, 10) := (G_127 L xs).S 57 (by decide)
  have r127_1 : mR (k_127 L xs) 55 1 = 57 := ((G_127 L xs).R 55 1).trans (by decide +kernel)
  refine (q_38_12 99 55 (k_125 L xs)).trans ?_
  try simp only [n125, s125_55, n126, s126_55, s126_57, n127, s127_55, s127_57, r127_1, E_126, E_127, ix_0, ix_1, ix_2, ix_3, ix_4, ix_5, ix_6, ix_7, ix_8, ix_9, ix_10, ix_14, ix_20, ix_24, ix_60, ix_96, ix_100, ix_120, ix_128, ix_2981, ix_3114, ix_4000]
  try rfl
theorem kt_39_2 : Rn 99 38 (20, [.ref 55], [], k_127 L xs) = Rn 99 38 (28, [.ref 55], [], k_129 L xs) := by
  have n127 := (G_127 L xs).N
  have s127_55 : mS (k_127 L xs) 55 = (4, 10) := (G_127 L xs).S 55 (by decide)
  have n128 := (G_128 L xs).N
  have s128_55 : mS (k_128 L xs) 55 = (4, 10) := (G_128 L xs).S 55 (by decide)
  have s128_58 : mS (k_128 L xs) 58 = (10, 10) := (G_128 L xs).S 58 (by decide)
  have n129 := (G_129 L xs).N
  have s129_55 : mS (k_129 L xs) 55 = (4, 10) := (G_129 L xs).S 55 (by decide)
  have s129_58 : mS (k_129 L xs) 58 = (10, 10) := (G_129 L xs).S 58 (by decide)
  have r129_2 : mR (k_129 L xs) 55 2 = 58 := ((G_129 L xs).R 55 2).trans (by decide +kernel)
  refine (q_38_20 99 55 (k_127 L xs)).trans ?_
  try simp only [n127, s127_55, n128, s128_55, s128_58, n129, s129_55, s129_58, r129_2, E_128, E_129, ix_0, ix_1, ix_2, ix_3, ix_4, ix_5, ix_6, ix_7, ix_8, ix_9, ix_10, ix_14, ix_20, ix_24, ix_60, ix_96, ix_100, ix_120, ix_128, ix_2981, ix_3114, ix_4000]
  try rfl
theorem kt_39_3 : Rn 99 38 (28, [.ref 55], [], k_129 L xs) = Rn 99 38 (36, [.ref 55], [], k_131 L xs) := by
  have n129 := (G_129 L xs).N
  have s129_55 : mS (k_129 L xs) 55 = (4, 10) := (G_129 L xs).S 55 (by decide)
  have n130 := (G_130 L xs).N
  have s130_55 : mS (k_130 L xs) 55 = (4, 10) := (G_130 L xs).S 55 (by decide)
  have s130_59 : mS (k_130 L xs) 59 = (10, 10) := (G_130 L xs).S 59 (by decide)
  have n131 := (G_131 L xs).N
  have s131_55 : mS (k_131 L xs) 55 = (4, 10) := (G_131 L xs).S 55 (by decide)
  have s131_59 : mS (k_131 L xs) 59 = (10, 10) := (G_131 L xs).S 59 (by decide)
  have r131_3 : mR (k_131 L xs) 55 3 = 59 := ((G_131 L xs).R 55 3).trans (by decide +kernel)
  refine (q_38_28 99 55 (k_129 L xs)).trans ?_
  try simp only [n129, s129_55, n130, s130_55, s130_59, n131, s131_55, s131_59, r131_3, E_130, E_131, ix_0, ix_1, ix_2, ix_3, ix_4, ix_5, ix_6, ix_7, ix_8, ix_9, ix_10, ix_14, ix_20, ix_24, ix_60, ix_96, ix_100, ix_120, ix_128, ix_2981, ix_3114, ix_4000]
  try rfl
theorem kt_39_4 : Rn 99 38 (36, [.ref 55], [], k_131 L xs) = Rn 99 38 (44, [.ref 55], [], k_133 L xs) := by
  have n131 := (G_131 L xs).N
  have s131_55 : mS (k_131 L xs) 55 = (4, 10) := (G_131 L xs).S 55 (by decide)
  have n132 := (G_132 L xs).N
  have s132_55 : mS (k_132 L xs) 55 = (4, 10) := (G_132 L xs).S 55 (by decide)
  have s132_60 : mS (k_132 L xs) 60 = (10, 10) := (G_132 L xs).S 60 (by decide)
  have n133 := (G_133 L xs).N
  have s133_55 : mS (k_133 L xs) 55 = (4, 10) := (G_133 L xs).S 55 (by decide)
  have s133_60 : mS (k_133 L xs) 60 = (10, 10) := (G_133 L xs).S 60 (by decide)
  have r133_4 : mR (k_133 L xs) 55 4 = 60 := ((G_133 L xs).R 55 4).trans (by decide +kernel)
  refine (q_38_36 99 55 (k_131 L xs)).trans ?_
  try simp only [n131, s131_55, n132, s132_55, s132_60, n133, s133_55, s133_60, r133_4, E_132, E_133, ix_0, ix_1, ix_2, ix_3, ix_4, ix_5, ix_6, ix_7, ix_8, ix_9, ix_10, ix_14, ix_20, ix_24, ix_60, ix_96, ix_100, ix_120, ix_128, ix_2981, ix_3114, ix_4000]
  try rfl
theorem kt_39_5 : Rn 99 38 (44, [.ref 55], [], k_133 L xs) = Rn 99 38 (52, [.ref 55], [], k_135 L xs) := by
  have n133 := (G_133 L xs).N
  have s133_55 : mS (k_133 L xs) 55 = (4, 10) := (G_133 L xs).S 55 (by decide)
  have n134 := (G_134 L xs).N
  have s134_55 : mS (k_134 L xs) 55 = (4, 10) := (G_134 L xs).S 55 (by decide)
  have s134_61 : mS (k_134 L xs) 61 = (10, 10) := (G_134 L xs).S 61 (by decide)
  have n135 := (G_135 L xs).N
  have s135_55 : mS (k_135 L xs) 55 = (4, 10) := (G_135 L xs).S 55 (by decide)
  have s135_61 : mS (k_135 L xs) 61 = (10, 10) := (G_135 L xs).S 61 (by decide)
  have r135_5 : mR (k_135 L xs) 55 5 = 61 := ((G_135 L xs).R 55 5).trans (by decide +kernel)
  refine (q_38_44 99 55 (k_133 L xs)).trans ?_
  try simp only [n133, s133_55, n134, s134_55, s134_61, n135, s135_55, s135_61, r135_5, E_134, E_135, ix_0, ix_1, ix_2, ix_3, ix_4, ix_5, ix_6, ix_7, ix_8, ix_9, ix_10, ix_14, ix_20, ix_24, ix_60, ix_96, ix_100, ix_120, ix_128, ix_2981, ix_3114, ix_4000]
  try rfl
theorem kt_39_6 : Rn 99 38 (52, [.ref 55], [], k_135 L xs) = Rn 99 38 (60, [.ref 55], [], k_137 L xs) := by
  have n135 := (G_135 L xs).N
  have s135_55 : mS (k_135 L xs) 55 = (4, 10) := (G_135 L xs).S 55 (by decide)
  have n136 := (G_136 L xs).N
  have s136_55 : mS (k_136 L xs) 55 = (4, 10) := (G_136 L xs).S 55 (by decide)
  have s136_62 : mS (k_136 L xs) 62 = (10, 96) := (G_136 L xs).S 62 (by decide)
  have n137 := (G_137 L xs).N
  have s137_55 : mS (k_137 L xs) 55 = (4, 10) := (G_137 L xs).S 55 (by decide)
  have s137_62 : mS (k_137 L xs) 62 = (10, 96) := (G_137 L xs).S 62 (by decide)
  have r137_6 : mR (k_137 L xs) 55 6 = 62 := ((G_137 L xs).R 55 6).trans (by decide +kernel)
  refine (q_38_52 99 55 (k_135 L xs)).trans ?_
  try simp only [n135, s135_55, n136, s136_55, s136_62, n137, s137_55, s137_62, r137_6, E_136, E_137, ix_0, ix_1, ix_2, ix_3, ix_4, ix_5, ix_6, ix_7, ix_8, ix_9, ix_10, ix_14, ix_20, ix_24, ix_60, ix_96, ix_100, ix_120, ix_128, ix_2981, ix_3114, ix_4000]
  try rfl
theorem kt_39_7 : Rn 99 38 (60, [.ref 55], [], k_137 L xs) = Rn 99 38 (69, [.ref 55], [], k_139 L xs) := by
  have n137 := (G_137 L xs).N
  have s137_55 : mS (k_137 L xs) 55 = (4, 10) := (G_137 L xs).S 55 (by decide)
  have n138 := (G_138 L xs).N
  have s138_55 : mS (k_138 L xs) 55 = (4, 10) := (G_138 L xs).S 55 (by decide)
  have s138_63 : mS (k_138 L xs) 63 = (11, 2981) := (G_138 L xs).S 63 (by decide)
  have n139 := (G_139 L xs).N
  have s139_55 : mS (k_139 L xs) 55 = (4, 10) := (G_139 L xs).S 55 (by decide)
  have s139_63 : mS (k_139 L xs) 63 = (11, 2981) := (G_139 L xs).S 63 (by decide)
  have r139_7 : mR (k_139 L xs) 55 7 = 63 := ((G_139 L xs).R 55 7).trans (by decide +kernel)
  refine (q_38_60 99 55 (k_137 L xs)).trans ?_
  try simp only [n137, s137_55, n138, s138_55, s138_63, n139, s139_55, s139_63, r139_7, E_138, E_139, ix_0, ix_1, ix_2, ix_3, ix_4, ix_5, ix_6, ix_7, ix_8, ix_9, ix_10, ix_14, ix_20, ix_24, ix_60, ix_96, ix_100, ix_120, ix_128, ix_2981, ix_3114, ix_4000]
  try rfl
theorem kt_39_8 : Rn 99 38 (69, [.ref 55], [], k_139 L xs) = some (none, k_139 L xs) := by
  have n139 := (G_139 L xs).N
  have s139_55 : mS (k_139 L xs) 55 = (4, 10) := (G_139 L xs).S 55 (by decide)
  refine (q_38_69 99 55 (k_139 L xs)).trans ?_
  try simp only [n139, s139_55, ix_0, ix_1, ix_2, ix_3, ix_4, ix_5, ix_6, ix_7, ix_8, ix_9, ix_10, ix_14, ix_20, ix_24, ix_60, ix_96, ix_100, ix_120, ix_128, ix_2981, ix_3114, ix_4000]
  try rfl
theorem kc_39 : cV 99 38 [.ref 55] (k_123 L xs) = some (k_139 L xs) := i_38 ((kt_39_0 L xs).trans ((kt_39_1 L xs).trans ((kt_39_2 L xs).trans ((kt_39_3 L xs).trans ((kt_39_4 L xs).trans ((kt_39_5 L xs).trans ((kt_39_6 L xs).trans ((kt_39_7 L xs).trans (kt_39_8 L xs)))))))))
def k_140 (L : Nat) (xs : Nat → Int32) : aMem := setR (k_139 L xs) 0 4 55
def zr_140 : List (Nat × Nat × Nat) := (0, 4, 55) :: zr_139
theorem G_140 : Mk L xs 64 3603 zr_140 zf_122 (k_140 L xs) := mk_setR (G_139 L xs)
theorem E_140 : setR (k_139 L xs) 0 4 55 = k_140 L xs := rfl
def k_141 (L : Nat) (xs : Nat → Int32) : aMem := newC (k_140 L xs) 3 10
theorem G_141 : Mk L xs 65 3613 zr_140 zf_122 (k_141 L xs) := mk_new (G_140 L xs) (by decide +kernel) (by decide +kernel) (by decide +kernel)
theorem E_141 : newC (k_140 L xs) 3 10 = k_141 L xs := rfl
def k_142 (L : Nat) (xs : Nat → Int32) : aMem := newC (k_141 L xs) 10 96
theorem G_142 : Mk L xs 66 3709 zr_140 zf_122 (k_142 L xs) := mk_new (G_141 L xs) (by decide +kernel) (by decide +kernel) (by decide +kernel)
theorem E_142 : newC (k_141 L xs) 10 96 = k_142 L xs := rfl
def k_143 (L : Nat) (xs : Nat → Int32) : aMem := setR (k_142 L xs) 64 0 65
def zr_143 : List (Nat × Nat × Nat) := (64, 0, 65) :: zr_140
theorem G_143 : Mk L xs 66 3709 zr_143 zf_122 (k_143 L xs) := mk_setR (G_142 L xs)
theorem E_143 : setR (k_142 L xs) 64 0 65 = k_143 L xs := rfl
def k_144 (L : Nat) (xs : Nat → Int32) : aMem := newC (k_143 L xs) 10 96
theorem G_144 : Mk L xs 67 3805 zr_143 zf_122 (k_144 L xs) := mk_new (G_143 L xs) (by decide +kernel) (by decide +kernel) (by decide +kernel)
theorem E_144 : newC (k_143 L xs) 10 96 = k_144 L xs := rfl
def k_145 (L : Nat) (xs : Nat → Int32) : aMem := setR (k_144 L xs) 64 2 66
def zr_145 : List (Nat × Nat × Nat) := (64, 2, 66) :: zr_143
theorem G_145 : Mk L xs 67 3805 zr_145 zf_122 (k_145 L xs) := mk_setR (G_144 L xs)
theorem E_145 : setR (k_144 L xs) 64 2 66 = k_145 L xs := rfl
theorem kt_40_0 : Rn 99 20 (0, [.ref 64], [], k_141 L xs) = some (none, k_145 L xs) := by
  have n141 := (G_141 L xs).N
  have s141_64 : mS (k_141 L xs) 64 = (3, 10) := (G_141 L xs).S 64 (by decide)
  have n142 := (G_142 L xs).N
  have s142_64 : mS (k_142 L xs) 64 = (3, 10) := (G_142 L xs).S 64 (by decide)
  have s142_65 : mS (k_142 L xs) 65 = (10, 96) := (G_142 L xs).S 65 (by decide)
  have n143 := (G_143 L xs).N
  have s143_64 : mS (k_143 L xs) 64 = (3, 10) := (G_143 L xs).S 64 (by decide)
  have s143_65 : mS (k_143 L xs) 65 = (10, 96) := (G_143 L xs).S 65 (by decide)
  have r143_0 : mR (k_143 L xs) 64 0 = 65 := ((G_143 L xs).R 64 0).trans (by decide +kernel)
  have n144 := (G_144 L xs).N
  have s144_64 : mS (k_144 L xs) 64 = (3, 10) := (G_144 L xs).S 64 (by decide)
  have s144_65 : mS (k_144 L xs) 65 = (10, 96) := (G_144 L xs).S 65 (by decide)
  have s144_66 : mS (k_144 L xs) 66 = (10, 96) := (G_144 L xs).S 66 (by decide)
  have r144_0 : mR (k_144 L xs) 64 0 = 65 := ((G_144 L xs).R 64 0).trans (by decide +kernel)
  have n145 := (G_145 L xs).N
  have s145_64 : mS (k_145 L xs) 64 = (3, 10) := (G_145 L xs).S 64 (by decide)
  have s145_65 : mS (k_145 L xs) 65 = (10, 96) := (G_145 L xs).S 65 (by decide)
  have s145_66 : mS (k_145 L xs) 66 = (10, 96) := (G_145 L xs).S 66 (by decide)
  have r145_0 : mR (k_145 L xs) 64 0 = 65 := ((G_145 L xs).R 64 0).trans (by decide +kernel)
  have r145_2 : mR (k_145 L xs) 64 2 = 66 := ((G_145 L xs).R 64 2).trans (by decide +kernel)
  refine (q_20_0 99 64 (k_141 L xs)).trans ?_
  try simp only [n141, s141_64, n142, s142_64, s142_65, n143, s143_64, s143_65, r143_0, n144, s144_64, s144_65, s144_66, r144_0, n145, s145_64, s145_65, s145_66, r145_0, r145_2, E_142, E_143, E_144, E_145, ix_0, ix_1, ix_2, ix_3, ix_4, ix_5, ix_6, ix_7, ix_8, ix_9, ix_10, ix_14, ix_20, ix_24, ix_60, ix_96, ix_100, ix_120, ix_128, ix_2981, ix_3114, ix_4000]
  try rfl
theorem kc_40 : cV 99 20 [.ref 64] (k_141 L xs) = some (k_145 L xs) := i_20 (kt_40_0 L xs)
def k_146 (L : Nat) (xs : Nat → Int32) : aMem := setR (k_145 L xs) 0 5 64
def zr_146 : List (Nat × Nat × Nat) := (0, 5, 64) :: zr_145
theorem G_146 : Mk L xs 67 3805 zr_146 zf_122 (k_146 L xs) := mk_setR (G_145 L xs)
theorem E_146 : setR (k_145 L xs) 0 5 64 = k_146 L xs := rfl
def k_147 (L : Nat) (xs : Nat → Int32) : aMem := newC (k_146 L xs) 10 96
theorem G_147 : Mk L xs 68 3901 zr_146 zf_122 (k_147 L xs) := mk_new (G_146 L xs) (by decide +kernel) (by decide +kernel) (by decide +kernel)
theorem E_147 : newC (k_146 L xs) 10 96 = k_147 L xs := rfl
def k_148 (L : Nat) (xs : Nat → Int32) : aMem := setR (k_147 L xs) 0 6 67
def zr_148 : List (Nat × Nat × Nat) := (0, 6, 67) :: zr_146
theorem G_148 : Mk L xs 68 3901 zr_148 zf_122 (k_148 L xs) := mk_setR (G_147 L xs)
theorem E_148 : setR (k_147 L xs) 0 6 67 = k_148 L xs := rfl
def k_149 (L : Nat) (xs : Nat → Int32) : aMem := setF (k_148 L xs) 0 7 0
def zf_149 : List (Nat × Nat × Int32) := (0, 7, 0) :: zf_122
theorem G_149 : Mk L xs 68 3901 zr_148 zf_149 (k_149 L xs) := mk_setF (G_148 L xs) (by decide)
theorem E_149 : setF (k_148 L xs) 0 7 0 = k_149 L xs := rfl
def k_150 (L : Nat) (xs : Nat → Int32) : aMem := newC (k_149 L xs) 10 60
theorem G_150 : Mk L xs 69 3961 zr_148 zf_149 (k_150 L xs) := mk_new (G_149 L xs) (by decide +kernel) (by decide +kernel) (by decide +kernel)
theorem E_150 : newC (k_149 L xs) 10 60 = k_150 L xs := rfl
def k_151 (L : Nat) (xs : Nat → Int32) : aMem := setR (k_150 L xs) 0 8 68
def zr_151 : List (Nat × Nat × Nat) := (0, 8, 68) :: zr_148
theorem G_151 : Mk L xs 69 3961 zr_151 zf_149 (k_151 L xs) := mk_setR (G_150 L xs)
theorem E_151 : setR (k_150 L xs) 0 8 68 = k_151 L xs := rfl
def k_152 (L : Nat) (xs : Nat → Int32) : aMem := setF (k_151 L xs) 0 9 0
def zf_152 : List (Nat × Nat × Int32) := (0, 9, 0) :: zf_149
theorem G_152 : Mk L xs 69 3961 zr_151 zf_152 (k_152 L xs) := mk_setF (G_151 L xs) (by decide)
theorem E_152 : setF (k_151 L xs) 0 9 0 = k_152 L xs := rfl
def k_153 (L : Nat) (xs : Nat → Int32) : aMem := newC (k_152 L xs) 13 4
theorem G_153 : Mk L xs 70 3965 zr_151 zf_152 (k_153 L xs) := mk_new (G_152 L xs) (by decide +kernel) (by decide +kernel) (by decide +kernel)
theorem E_153 : newC (k_152 L xs) 13 4 = k_153 L xs := rfl
def k_154 (L : Nat) (xs : Nat → Int32) : aMem := setR (k_153 L xs) 0 10 69
def zr_154 : List (Nat × Nat × Nat) := (0, 10, 69) :: zr_151
theorem G_154 : Mk L xs 70 3965 zr_154 zf_152 (k_154 L xs) := mk_setR (G_153 L xs)
theorem E_154 : setR (k_153 L xs) 0 10 69 = k_154 L xs := rfl
def k_155 (L : Nat) (xs : Nat → Int32) : aMem := newC (k_154 L xs) 5 3
theorem G_155 : Mk L xs 71 3968 zr_154 zf_152 (k_155 L xs) := mk_new (G_154 L xs) (by decide +kernel) (by decide +kernel) (by decide +kernel)
theorem E_155 : newC (k_154 L xs) 5 3 = k_155 L xs := rfl
def k_156 (L : Nat) (xs : Nat → Int32) : aMem := newC (k_155 L xs) 10 24
theorem G_156 : Mk L xs 72 3992 zr_154 zf_152 (k_156 L xs) := mk_new (G_155 L xs) (by decide +kernel) (by decide +kernel) (by decide +kernel)
theorem E_156 : newC (k_155 L xs) 10 24 = k_156 L xs := rfl
def k_157 (L : Nat) (xs : Nat → Int32) : aMem := setR (k_156 L xs) 70 0 71
def zr_157 : List (Nat × Nat × Nat) := (70, 0, 71) :: zr_154
theorem G_157 : Mk L xs 72 3992 zr_157 zf_152 (k_157 L xs) := mk_setR (G_156 L xs)
theorem E_157 : setR (k_156 L xs) 70 0 71 = k_157 L xs := rfl
def k_158 (L : Nat) (xs : Nat → Int32) : aMem := setF (k_157 L xs) 70 1 (-1)
def zf_158 : List (Nat × Nat × Int32) := (70, 1, (-1)) :: zf_152
theorem G_158 : Mk L xs 72 3992 zr_157 zf_158 (k_158 L xs) := mk_setF (G_157 L xs) (by decide)
theorem E_158 : setF (k_157 L xs) 70 1 (-1) = k_158 L xs := rfl
theorem kt_41_0 : Rn 99 66 (0, [.ref 70], [], k_155 L xs) = some (none, k_158 L xs) := by
  have n155 := (G_155 L xs).N
  have s155_70 : mS (k_155 L xs) 70 = (5, 3) := (G_155 L xs).S 70 (by decide)
  have n156 := (G_156 L xs).N
  have s156_70 : mS (k_156 L xs) 70 = (5, 3) := (G_156 L xs).S 70 (by decide)
  have s156_71 : mS (k_156 L xs) 71 = (10, 24) := (G_156 L xs).S 71 (by decide)
  have n157 := (G_157 L xs).N
  have s157_70 : mS (k_157 L xs) 70 = (5, 3) := (G_157 L xs).S 70 (by decide)
  have s157_71 : mS (k_157 L xs) 71 = (10, 24) := (G_157 L xs).S 71 (by decide)
  have r157_0 : mR (k_157 L xs) 70 0 = 71 := ((G_157 L xs).R 70 0).trans (by decide +kernel)
  have n158 := (G_158 L xs).N
  have s158_70 : mS (k_158 L xs) 70 = (5, 3) := (G_158 L xs).S 70 (by decide)
  have s158_71 : mS (k_158 L xs) 71 = (10, 24) := (G_158 L xs).S 71 (by decide)
  have r158_0 : mR (k_158 L xs) 70 0 = 71 := ((G_158 L xs).R 70 0).trans (by decide +kernel)
  refine (q_66_0 99 70 (k_155 L xs)).trans ?_
  try simp only [n155, s155_70, n156, s156_70, s156_71, n157, s157_70, s157_71, r157_0, n158, s158_70, s158_71, r158_0, E_156, E_157, E_158, ix_0, ix_1, ix_2, ix_3, ix_4, ix_5, ix_6, ix_7, ix_8, ix_9, ix_10, ix_14, ix_20, ix_24, ix_60, ix_96, ix_100, ix_120, ix_128, ix_2981, ix_3114, ix_4000]
  try rfl
theorem kc_41 : cV 99 66 [.ref 70] (k_155 L xs) = some (k_158 L xs) := i_66 (kt_41_0 L xs)
def k_159 (L : Nat) (xs : Nat → Int32) : aMem := setR (k_158 L xs) 69 0 70
def zr_159 : List (Nat × Nat × Nat) := (69, 0, 70) :: zr_157
theorem G_159 : Mk L xs 72 3992 zr_159 zf_158 (k_159 L xs) := mk_setR (G_158 L xs)
theorem E_159 : setR (k_158 L xs) 69 0 70 = k_159 L xs := rfl
def k_160 (L : Nat) (xs : Nat → Int32) : aMem := newC (k_159 L xs) 5 3
theorem G_160 : Mk L xs 73 3995 zr_159 zf_158 (k_160 L xs) := mk_new (G_159 L xs) (by decide +kernel) (by decide +kernel) (by decide +kernel)
theorem E_160 : newC (k_159 L xs) 5 3 = k_160 L xs := rfl
def k_161 (L : Nat) (xs : Nat → Int32) : aMem := newC (k_160 L xs) 10 24
theorem G_161 : Mk L xs 74 4019 zr_159 zf_158 (k_161 L xs) := mk_new (G_160 L xs) (by decide +kernel) (by decide +kernel) (by decide +kernel)
theorem E_161 : newC (k_160 L xs) 10 24 = k_161 L xs := rfl
def k_162 (L : Nat) (xs : Nat → Int32) : aMem := setR (k_161 L xs) 72 0 73
def zr_162 : List (Nat × Nat × Nat) := (72, 0, 73) :: zr_159
theorem G_162 : Mk L xs 74 4019 zr_162 zf_158 (k_162 L xs) := mk_setR (G_161 L xs)
theorem E_162 : setR (k_161 L xs) 72 0 73 = k_162 L xs := rfl
def k_163 (L : Nat) (xs : Nat → Int32) : aMem := setF (k_162 L xs) 72 1 (-1)
def zf_163 : List (Nat × Nat × Int32) := (72, 1, (-1)) :: zf_158
theorem G_163 : Mk L xs 74 4019 zr_162 zf_163 (k_163 L xs) := mk_setF (G_162 L xs) (by decide)
theorem E_163 : setF (k_162 L xs) 72 1 (-1) = k_163 L xs := rfl
theorem kt_42_0 : Rn 99 66 (0, [.ref 72], [], k_160 L xs) = some (none, k_163 L xs) := by
  have n160 := (G_160 L xs).N
  have s160_72 : mS (k_160 L xs) 72 = (5, 3) := (G_160 L xs).S 72 (by decide)
  have n161 := (G_161 L xs).N
  have s161_72 : mS (k_161 L xs) 72 = (5, 3) := (G_161 L xs).S 72 (by decide)
  have s161_73 : mS (k_161 L xs) 73 = (10, 24) := (G_161 L xs).S 73 (by decide)
  have n162 := (G_162 L xs).N
  have s162_72 : mS (k_162 L xs) 72 = (5, 3) := (G_162 L xs).S 72 (by decide)
  have s162_73 : mS (k_162 L xs) 73 = (10, 24) := (G_162 L xs).S 73 (by decide)
  have r162_0 : mR (k_162 L xs) 72 0 = 73 := ((G_162 L xs).R 72 0).trans (by decide +kernel)
  have n163 := (G_163 L xs).N
  have s163_72 : mS (k_163 L xs) 72 = (5, 3) := (G_163 L xs).S 72 (by decide)
  have s163_73 : mS (k_163 L xs) 73 = (10, 24) := (G_163 L xs).S 73 (by decide)
  have r163_0 : mR (k_163 L xs) 72 0 = 73 := ((G_163 L xs).R 72 0).trans (by decide +kernel)
  refine (q_66_0 99 72 (k_160 L xs)).trans ?_
  try simp only [n160, s160_72, n161, s161_72, s161_73, n162, s162_72, s162_73, r162_0, n163, s163_72, s163_73, r163_0, E_161, E_162, E_163, ix_0, ix_1, ix_2, ix_3, ix_4, ix_5, ix_6, ix_7, ix_8, ix_9, ix_10, ix_14, ix_20, ix_24, ix_60, ix_96, ix_100, ix_120, ix_128, ix_2981, ix_3114, ix_4000]
  try rfl
theorem kc_42 : cV 99 66 [.ref 72] (k_160 L xs) = some (k_163 L xs) := i_66 (kt_42_0 L xs)
def k_164 (L : Nat) (xs : Nat → Int32) : aMem := setR (k_163 L xs) 69 1 72
def zr_164 : List (Nat × Nat × Nat) := (69, 1, 72) :: zr_162
theorem G_164 : Mk L xs 74 4019 zr_164 zf_163 (k_164 L xs) := mk_setR (G_163 L xs)
theorem E_164 : setR (k_163 L xs) 69 1 72 = k_164 L xs := rfl
def k_165 (L : Nat) (xs : Nat → Int32) : aMem := newC (k_164 L xs) 5 3
theorem G_165 : Mk L xs 75 4022 zr_164 zf_163 (k_165 L xs) := mk_new (G_164 L xs) (by decide +kernel) (by decide +kernel) (by decide +kernel)
theorem E_165 : newC (k_164 L xs) 5 3 = k_165 L xs := rfl
def k_166 (L : Nat) (xs : Nat → Int32) : aMem := newC (k_165 L xs) 10 24
theorem G_166 : Mk L xs 76 4046 zr_164 zf_163 (k_166 L xs) := mk_new (G_165 L xs) (by decide +kernel) (by decide +kernel) (by decide +kernel)
theorem E_166 : newC (k_165 L xs) 10 24 = k_166 L xs := rfl
def k_167 (L : Nat) (xs : Nat → Int32) : aMem := setR (k_166 L xs) 74 0 75
def zr_167 : List (Nat × Nat × Nat) := (74, 0, 75) :: zr_164
theorem G_167 : Mk L xs 76 4046 zr_167 zf_163 (k_167 L xs) := mk_setR (G_166 L xs)
theorem E_167 : setR (k_166 L xs) 74 0 75 = k_167 L xs := rfl
def k_168 (L : Nat) (xs : Nat → Int32) : aMem := setF (k_167 L xs) 74 1 (-1)
def zf_168 : List (Nat × Nat × Int32) := (74, 1, (-1)) :: zf_163
theorem G_168 : Mk L xs 76 4046 zr_167 zf_168 (k_168 L xs) := mk_setF (G_167 L xs) (by decide)
theorem E_168 : setF (k_167 L xs) 74 1 (-1) = k_168 L xs := rfl
theorem kt_43_0 : Rn 99 66 (0, [.ref 74], [], k_165 L xs) = some (none, k_168 L xs) := by
  have n165 := (G_165 L xs).N
  have s165_74 : mS (k_165 L xs) 74 = (5, 3) := (G_165 L xs).S 74 (by decide)
  have n166 := (G_166 L xs).N
  have s166_74 : mS (k_166 L xs) 74 = (5, 3) := (G_166 L xs).S 74 (by decide)
  have s166_75 : mS (k_166 L xs) 75 = (10, 24) := (G_166 L xs).S 75 (by decide)
  have n167 := (G_167 L xs).N
  have s167_74 : mS (k_167 L xs) 74 = (5, 3) := (G_167 L xs).S 74 (by decide)
  have s167_75 : mS (k_167 L xs) 75 = (10, 24) := (G_167 L xs).S 75 (by decide)
  have r167_0 : mR (k_167 L xs) 74 0 = 75 := ((G_167 L xs).R 74 0).trans (by decide +kernel)
  have n168 := (G_168 L xs).N
  have s168_74 : mS (k_168 L xs) 74 = (5, 3) := (G_168 L xs).S 74 (by decide)
  have s168_75 : mS (k_168 L xs) 75 = (10, 24) := (G_168 L xs).S 75 (by decide)
  have r168_0 : mR (k_168 L xs) 74 0 = 75 := ((G_168 L xs).R 74 0).trans (by decide +kernel)
  refine (q_66_0 99 74 (k_165 L xs)).trans ?_
  try simp only [n165, s165_74, n166, s166_74, s166_75, n167, s167_74, s167_75, r167_0, n168, s168_74, s168_75, r168_0, E_166, E_167, E_168, ix_0, ix_1, ix_2, ix_3, ix_4, ix_5, ix_6, ix_7, ix_8, ix_9, ix_10, ix_14, ix_20, ix_24, ix_60, ix_96, ix_100, ix_120, ix_128, ix_2981, ix_3114, ix_4000]
  try rfl
theorem kc_43 : cV 99 66 [.ref 74] (k_165 L xs) = some (k_168 L xs) := i_66 (kt_43_0 L xs)
def k_169 (L : Nat) (xs : Nat → Int32) : aMem := setR (k_168 L xs) 69 2 74
def zr_169 : List (Nat × Nat × Nat) := (69, 2, 74) :: zr_167
theorem G_169 : Mk L xs 76 4046 zr_169 zf_168 (k_169 L xs) := mk_setR (G_168 L xs)
theorem E_169 : setR (k_168 L xs) 69 2 74 = k_169 L xs := rfl
def k_170 (L : Nat) (xs : Nat → Int32) : aMem := newC (k_169 L xs) 5 3
theorem G_170 : Mk L xs 77 4049 zr_169 zf_168 (k_170 L xs) := mk_new (G_169 L xs) (by decide +kernel) (by decide +kernel) (by decide +kernel)
theorem E_170 : newC (k_169 L xs) 5 3 = k_170 L xs := rfl
def k_171 (L : Nat) (xs : Nat → Int32) : aMem := newC (k_170 L xs) 10 24
theorem G_171 : Mk L xs 78 4073 zr_169 zf_168 (k_171 L xs) := mk_new (G_170 L xs) (by decide +kernel) (by decide +kernel) (by decide +kernel)
theorem E_171 : newC (k_170 L xs) 10 24 = k_171 L xs := rfl
def k_172 (L : Nat) (xs : Nat → Int32) : aMem := setR (k_171 L xs) 76 0 77
def zr_172 : List (Nat × Nat × Nat) := (76, 0, 77) :: zr_169
theorem G_172 : Mk L xs 78 4073 zr_172 zf_168 (k_172 L xs) := mk_setR (G_171 L xs)
theorem E_172 : setR (k_171 L xs) 76 0 77 = k_172 L xs := rfl
def k_173 (L : Nat) (xs : Nat → Int32) : aMem := setF (k_172 L xs) 76 1 (-1)
def zf_173 : List (Nat × Nat × Int32) := (76, 1, (-1)) :: zf_168
theorem G_173 : Mk L xs 78 4073 zr_172 zf_173 (k_173 L xs) := mk_setF (G_172 L xs) (by decide)
theorem E_173 : setF (k_172 L xs) 76 1 (-1) = k_173 L xs := rfl
theorem kt_44_0 : Rn 99 66 (0, [.ref 76], [], k_170 L xs) = some (none, k_173 L xs) := by
  have n170 := (G_170 L xs).N
  have s170_76 : mS (k_170 L xs) 76 = (5, 3) := (G_170 L xs).S 76 (by decide)
  have n171 := (G_171 L xs).N
  have s171_76 : mS (k_171 L xs) 76 = (5, 3) := (G_171 L xs).S 76 (by decide)
  have s171_77 : mS (k_171 L xs) 77 = (10, 24) := (G_171 L xs).S 77 (by decide)
  have n172 := (G_172 L xs).N
  have s172_76 : mS (k_172 L xs) 76 = (5, 3) := (G_172 L xs).S 76 (by decide)
  have s172_77 : mS (k_172 L xs) 77 = (10, 24) := (G_172 L xs).S 77 (by decide)
  have r172_0 : mR (k_172 L xs) 76 0 = 77 := ((G_172 L xs).R 76 0).trans (by decide +kernel)
  have n173 := (G_173 L xs).N
  have s173_76 : mS (k_173 L xs) 76 = (5, 3) := (G_173 L xs).S 76 (by decide)
  have s173_77 : mS (k_173 L xs) 77 = (10, 24) := (G_173 L xs).S 77 (by decide)
  have r173_0 : mR (k_173 L xs) 76 0 = 77 := ((G_173 L xs).R 76 0).trans (by decide +kernel)
  refine (q_66_0 99 76 (k_170 L xs)).trans ?_
  try simp only [n170, s170_76, n171, s171_76, s171_77, n172, s172_76, s172_77, r172_0, n173, s173_76, s173_77, r173_0, E_171, E_172, E_173, ix_0, ix_1, ix_2, ix_3, ix_4, ix_5, ix_6, ix_7, ix_8, ix_9, ix_10, ix_14, ix_20, ix_24, ix_60, ix_96, ix_100, ix_120, ix_128, ix_2981, ix_3114, ix_4000]
  try rfl
theorem kc_44 : cV 99 66 [.ref 76] (k_170 L xs) = some (k_173 L xs) := i_66 (kt_44_0 L xs)
def k_174 (L : Nat) (xs : Nat → Int32) : aMem := setR (k_173 L xs) 69 3 76
def zr_174 : List (Nat × Nat × Nat) := (69, 3, 76) :: zr_172
theorem G_174 : Mk L xs 78 4073 zr_174 zf_173 (k_174 L xs) := mk_setR (G_173 L xs)
theorem E_174 : setR (k_173 L xs) 69 3 76 = k_174 L xs := rfl
def k_175 (L : Nat) (xs : Nat → Int32) : aMem := newC (k_174 L xs) 14 5
theorem G_175 : Mk L xs 79 4078 zr_174 zf_173 (k_175 L xs) := mk_new (G_174 L xs) (by decide +kernel) (by decide +kernel) (by decide +kernel)
theorem E_175 : newC (k_174 L xs) 14 5 = k_175 L xs := rfl
def k_176 (L : Nat) (xs : Nat → Int32) : aMem := setR (k_175 L xs) 0 11 78
def zr_176 : List (Nat × Nat × Nat) := (0, 11, 78) :: zr_174
theorem G_176 : Mk L xs 79 4078 zr_176 zf_173 (k_176 L xs) := mk_setR (G_175 L xs)
theorem E_176 : setR (k_175 L xs) 0 11 78 = k_176 L xs := rfl
def k_177 (L : Nat) (xs : Nat → Int32) : aMem := newC (k_176 L xs) 6 4
theorem G_177 : Mk L xs 80 4082 zr_176 zf_173 (k_177 L xs) := mk_new (G_176 L xs) (by decide +kernel) (by decide +kernel) (by decide +kernel)
theorem E_177 : newC (k_176 L xs) 6 4 = k_177 L xs := rfl
def k_178 (L : Nat) (xs : Nat → Int32) : aMem := setF (k_177 L xs) 79 0 0
def zf_178 : List (Nat × Nat × Int32) := (79, 0, 0) :: zf_173
theorem G_178 : Mk L xs 80 4082 zr_176 zf_178 (k_178 L xs) := mk_setF (G_177 L xs) (by decide)
theorem E_178 : setF (k_177 L xs) 79 0 0 = k_178 L xs := rfl
def k_179 (L : Nat) (xs : Nat → Int32) : aMem := newC (k_178 L xs) 1 5
theorem G_179 : Mk L xs 81 4087 zr_176 zf_178 (k_179 L xs) := mk_new (G_178 L xs) (by decide +kernel) (by decide +kernel) (by decide +kernel)
theorem E_179 : newC (k_178 L xs) 1 5 = k_179 L xs := rfl
theorem kt_45_0 : Rn 98 5 (0, [.ref 80], [], k_179 L xs) = some (none, k_179 L xs) := by
  have n179 := (G_179 L xs).N
  have s179_80 : mS (k_179 L xs) 80 = (1, 5) := (G_179 L xs).S 80 (by decide)
  refine (q_5_0 98 80 (k_179 L xs)).trans ?_
  try simp only [n179, s179_80, ix_0, ix_1, ix_2, ix_3, ix_4, ix_5, ix_6, ix_7, ix_8, ix_9, ix_10, ix_14, ix_20, ix_24, ix_60, ix_96, ix_100, ix_120, ix_128, ix_2981, ix_3114, ix_4000]
  try rfl
theorem kc_45 : cV 98 5 [.ref 80] (k_179 L xs) = some (k_179 L xs) := i_5 (kt_45_0 L xs)
def k_180 (L : Nat) (xs : Nat → Int32) : aMem := setR (k_179 L xs) 79 1 80
def zr_180 : List (Nat × Nat × Nat) := (79, 1, 80) :: zr_176
theorem G_180 : Mk L xs 81 4087 zr_180 zf_178 (k_180 L xs) := mk_setR (G_179 L xs)
theorem E_180 : setR (k_179 L xs) 79 1 80 = k_180 L xs := rfl
def k_181 (L : Nat) (xs : Nat → Int32) : aMem := newC (k_180 L xs) 5 3
theorem G_181 : Mk L xs 82 4090 zr_180 zf_178 (k_181 L xs) := mk_new (G_180 L xs) (by decide +kernel) (by decide +kernel) (by decide +kernel)
theorem E_181 : newC (k_180 L xs) 5 3 = k_181 L xs := rfl
def k_182 (L : Nat) (xs : Nat → Int32) : aMem := newC (k_181 L xs) 10 24
theorem G_182 : Mk L xs 83 4114 zr_180 zf_178 (k_182 L xs) := mk_new (G_181 L xs) (by decide +kernel) (by decide +kernel) (by decide +kernel)
theorem E_182 : newC (k_181 L xs) 10 24 = k_182 L xs := rfl
def k_183 (L : Nat) (xs : Nat → Int32) : aMem := setR (k_182 L xs) 81 0 82
def zr_183 : List (Nat × Nat × Nat) := (81, 0, 82) :: zr_180
theorem G_183 : Mk L xs 83 4114 zr_183 zf_178 (k_183 L xs) := mk_setR (G_182 L xs)
theorem E_183 : setR (k_182 L xs) 81 0 82 = k_183 L xs := rfl
def k_184 (L : Nat) (xs : Nat → Int32) : aMem := setF (k_183 L xs) 81 1 (-1)
def zf_184 : List (Nat × Nat × Int32) := (81, 1, (-1)) :: zf_178
theorem G_184 : Mk L xs 83 4114 zr_183 zf_184 (k_184 L xs) := mk_setF (G_183 L xs) (by decide)
theorem E_184 : setF (k_183 L xs) 81 1 (-1) = k_184 L xs := rfl
theorem kt_46_0 : Rn 98 66 (0, [.ref 81], [], k_181 L xs) = some (none, k_184 L xs) := by
  have n181 := (G_181 L xs).N
  have s181_81 : mS (k_181 L xs) 81 = (5, 3) := (G_181 L xs).S 81 (by decide)
  have n182 := (G_182 L xs).N
  have s182_81 : mS (k_182 L xs) 81 = (5, 3) := (G_182 L xs).S 81 (by decide)
  have s182_82 : mS (k_182 L xs) 82 = (10, 24) := (G_182 L xs).S 82 (by decide)
  have n183 := (G_183 L xs).N
  have s183_81 : mS (k_183 L xs) 81 = (5, 3) := (G_183 L xs).S 81 (by decide)
  have s183_82 : mS (k_183 L xs) 82 = (10, 24) := (G_183 L xs).S 82 (by decide)
  have r183_0 : mR (k_183 L xs) 81 0 = 82 := ((G_183 L xs).R 81 0).trans (by decide +kernel)
  have n184 := (G_184 L xs).N
  have s184_81 : mS (k_184 L xs) 81 = (5, 3) := (G_184 L xs).S 81 (by decide)
  have s184_82 : mS (k_184 L xs) 82 = (10, 24) := (G_184 L xs).S 82 (by decide)
  have r184_0 : mR (k_184 L xs) 81 0 = 82 := ((G_184 L xs).R 81 0).trans (by decide +kernel)
  refine (q_66_0 98 81 (k_181 L xs)).trans ?_
  try simp only [n181, s181_81, n182, s182_81, s182_82, n183, s183_81, s183_82, r183_0, n184, s184_81, s184_82, r184_0, E_182, E_183, E_184, ix_0, ix_1, ix_2, ix_3, ix_4, ix_5, ix_6, ix_7, ix_8, ix_9, ix_10, ix_14, ix_20, ix_24, ix_60, ix_96, ix_100, ix_120, ix_128, ix_2981, ix_3114, ix_4000]
  try rfl
theorem kc_46 : cV 98 66 [.ref 81] (k_181 L xs) = some (k_184 L xs) := i_66 (kt_46_0 L xs)
def k_185 (L : Nat) (xs : Nat → Int32) : aMem := setR (k_184 L xs) 79 2 81
def zr_185 : List (Nat × Nat × Nat) := (79, 2, 81) :: zr_183
theorem G_185 : Mk L xs 83 4114 zr_185 zf_184 (k_185 L xs) := mk_setR (G_184 L xs)
theorem E_185 : setR (k_184 L xs) 79 2 81 = k_185 L xs := rfl
theorem kt_47_0 : Rn 99 79 (0, [.ref 79], [], k_177 L xs) = some (none, k_185 L xs) := by
  have n177 := (G_177 L xs).N
  have s177_79 : mS (k_177 L xs) 79 = (6, 4) := (G_177 L xs).S 79 (by decide)
  have n178 := (G_178 L xs).N
  have s178_79 : mS (k_178 L xs) 79 = (6, 4) := (G_178 L xs).S 79 (by decide)
  have n179 := (G_179 L xs).N
  have s179_79 : mS (k_179 L xs) 79 = (6, 4) := (G_179 L xs).S 79 (by decide)
  have s179_80 : mS (k_179 L xs) 80 = (1, 5) := (G_179 L xs).S 80 (by decide)
  have n180 := (G_180 L xs).N
  have s180_79 : mS (k_180 L xs) 79 = (6, 4) := (G_180 L xs).S 79 (by decide)
  have s180_80 : mS (k_180 L xs) 80 = (1, 5) := (G_180 L xs).S 80 (by decide)
  have r180_1 : mR (k_180 L xs) 79 1 = 80 := ((G_180 L xs).R 79 1).trans (by decide +kernel)
  have n181 := (G_181 L xs).N
  have s181_79 : mS (k_181 L xs) 79 = (6, 4) := (G_181 L xs).S 79 (by decide)
  have s181_80 : mS (k_181 L xs) 80 = (1, 5) := (G_181 L xs).S 80 (by decide)
  have s181_81 : mS (k_181 L xs) 81 = (5, 3) := (G_181 L xs).S 81 (by decide)
  have r181_1 : mR (k_181 L xs) 79 1 = 80 := ((G_181 L xs).R 79 1).trans (by decide +kernel)
  have n184 := (G_184 L xs).N
  have s184_79 : mS (k_184 L xs) 79 = (6, 4) := (G_184 L xs).S 79 (by decide)
  have s184_80 : mS (k_184 L xs) 80 = (1, 5) := (G_184 L xs).S 80 (by decide)
  have s184_81 : mS (k_184 L xs) 81 = (5, 3) := (G_184 L xs).S 81 (by decide)
  have r184_1 : mR (k_184 L xs) 79 1 = 80 := ((G_184 L xs).R 79 1).trans (by decide +kernel)
  have n185 := (G_185 L xs).N
  have s185_79 : mS (k_185 L xs) 79 = (6, 4) := (G_185 L xs).S 79 (by decide)
  have s185_80 : mS (k_185 L xs) 80 = (1, 5) := (G_185 L xs).S 80 (by decide)
  have s185_81 : mS (k_185 L xs) 81 = (5, 3) := (G_185 L xs).S 81 (by decide)
  have r185_1 : mR (k_185 L xs) 79 1 = 80 := ((G_185 L xs).R 79 1).trans (by decide +kernel)
  have r185_2 : mR (k_185 L xs) 79 2 = 81 := ((G_185 L xs).R 79 2).trans (by decide +kernel)
  refine (q_79_0 98 79 (k_177 L xs)).trans ?_
  try simp only [n177, s177_79, n178, s178_79, n179, s179_79, s179_80, n180, s180_79, s180_80, r180_1, n181, s181_79, s181_80, s181_81, r181_1, n184, s184_79, s184_80, s184_81, r184_1, n185, s185_79, s185_80, s185_81, r185_1, r185_2, E_178, E_179, E_180, E_181, E_185, kc_45, kc_46, Option.bind_some, ix_0, ix_1, ix_2, ix_3, ix_4, ix_5, ix_6, ix_7, ix_8, ix_9, ix_10, ix_14, ix_20, ix_24, ix_60, ix_96, ix_100, ix_120, ix_128, ix_2981, ix_3114, ix_4000]
  try rfl
theorem kc_47 : cV 99 79 [.ref 79] (k_177 L xs) = some (k_185 L xs) := i_79 (kt_47_0 L xs)
def k_186 (L : Nat) (xs : Nat → Int32) : aMem := setR (k_185 L xs) 78 0 79
def zr_186 : List (Nat × Nat × Nat) := (78, 0, 79) :: zr_185
theorem G_186 : Mk L xs 83 4114 zr_186 zf_184 (k_186 L xs) := mk_setR (G_185 L xs)
theorem E_186 : setR (k_185 L xs) 78 0 79 = k_186 L xs := rfl
def k_187 (L : Nat) (xs : Nat → Int32) : aMem := newC (k_186 L xs) 6 4
theorem G_187 : Mk L xs 84 4118 zr_186 zf_184 (k_187 L xs) := mk_new (G_186 L xs) (by decide +kernel) (by decide +kernel) (by decide +kernel)
theorem E_187 : newC (k_186 L xs) 6 4 = k_187 L xs := rfl
def k_188 (L : Nat) (xs : Nat → Int32) : aMem := setF (k_187 L xs) 83 0 0
def zf_188 : List (Nat × Nat × Int32) := (83, 0, 0) :: zf_184
theorem G_188 : Mk L xs 84 4118 zr_186 zf_188 (k_188 L xs) := mk_setF (G_187 L xs) (by decide)
theorem E_188 : setF (k_187 L xs) 83 0 0 = k_188 L xs := rfl
def k_189 (L : Nat) (xs : Nat → Int32) : aMem := newC (k_188 L xs) 1 5
theorem G_189 : Mk L xs 85 4123 zr_186 zf_188 (k_189 L xs) := mk_new (G_188 L xs) (by decide +kernel) (by decide +kernel) (by decide +kernel)
theorem E_189 : newC (k_188 L xs) 1 5 = k_189 L xs := rfl
theorem kt_48_0 : Rn 98 5 (0, [.ref 84], [], k_189 L xs) = some (none, k_189 L xs) := by
  have n189 := (G_189 L xs).N
  have s189_84 : mS (k_189 L xs) 84 = (1, 5) := (G_189 L xs).S 84 (by decide)
  refine (q_5_0 98 84 (k_189 L xs)).trans ?_
  try simp only [n189, s189_84, ix_0, ix_1, ix_2, ix_3, ix_4, ix_5, ix_6, ix_7, ix_8, ix_9, ix_10, ix_14, ix_20, ix_24, ix_60, ix_96, ix_100, ix_120, ix_128, ix_2981, ix_3114, ix_4000]
  try rfl
theorem kc_48 : cV 98 5 [.ref 84] (k_189 L xs) = some (k_189 L xs) := i_5 (kt_48_0 L xs)
def k_190 (L : Nat) (xs : Nat → Int32) : aMem := setR (k_189 L xs) 83 1 84
def zr_190 : List (Nat × Nat × Nat) := (83, 1, 84) :: zr_186
theorem G_190 : Mk L xs 85 4123 zr_190 zf_188 (k_190 L xs) := mk_setR (G_189 L xs)
theorem E_190 : setR (k_189 L xs) 83 1 84 = k_190 L xs := rfl
def k_191 (L : Nat) (xs : Nat → Int32) : aMem := newC (k_190 L xs) 5 3
theorem G_191 : Mk L xs 86 4126 zr_190 zf_188 (k_191 L xs) := mk_new (G_190 L xs) (by decide +kernel) (by decide +kernel) (by decide +kernel)
theorem E_191 : newC (k_190 L xs) 5 3 = k_191 L xs := rfl
def k_192 (L : Nat) (xs : Nat → Int32) : aMem := newC (k_191 L xs) 10 24
theorem G_192 : Mk L xs 87 4150 zr_190 zf_188 (k_192 L xs) := mk_new (G_191 L xs) (by decide +kernel) (by decide +kernel) (by decide +kernel)
theorem E_192 : newC (k_191 L xs) 10 24 = k_192 L xs := rfl
def k_193 (L : Nat) (xs : Nat → Int32) : aMem := setR (k_192 L xs) 85 0 86
def zr_193 : List (Nat × Nat × Nat) := (85, 0, 86) :: zr_190
theorem G_193 : Mk L xs 87 4150 zr_193 zf_188 (k_193 L xs) := mk_setR (G_192 L xs)
theorem E_193 : setR (k_192 L xs) 85 0 86 = k_193 L xs := rfl
def k_194 (L : Nat) (xs : Nat → Int32) : aMem := setF (k_193 L xs) 85 1 (-1)
def zf_194 : List (Nat × Nat × Int32) := (85, 1, (-1)) :: zf_188
theorem G_194 : Mk L xs 87 4150 zr_193 zf_194 (k_194 L xs) := mk_setF (G_193 L xs) (by decide)
theorem E_194 : setF (k_193 L xs) 85 1 (-1) = k_194 L xs := rfl
theorem kt_49_0 : Rn 98 66 (0, [.ref 85], [], k_191 L xs) = some (none, k_194 L xs) := by
  have n191 := (G_191 L xs).N
  have s191_85 : mS (k_191 L xs) 85 = (5, 3) := (G_191 L xs).S 85 (by decide)
  have n192 := (G_192 L xs).N
  have s192_85 : mS (k_192 L xs) 85 = (5, 3) := (G_192 L xs).S 85 (by decide)
  have s192_86 : mS (k_192 L xs) 86 = (10, 24) := (G_192 L xs).S 86 (by decide)
  have n193 := (G_193 L xs).N
  have s193_85 : mS (k_193 L xs) 85 = (5, 3) := (G_193 L xs).S 85 (by decide)
  have s193_86 : mS (k_193 L xs) 86 = (10, 24) := (G_193 L xs).S 86 (by decide)
  have r193_0 : mR (k_193 L xs) 85 0 = 86 := ((G_193 L xs).R 85 0).trans (by decide +kernel)
  have n194 := (G_194 L xs).N
  have s194_85 : mS (k_194 L xs) 85 = (5, 3) := (G_194 L xs).S 85 (by decide)
  have s194_86 : mS (k_194 L xs) 86 = (10, 24) := (G_194 L xs).S 86 (by decide)
  have r194_0 : mR (k_194 L xs) 85 0 = 86 := ((G_194 L xs).R 85 0).trans (by decide +kernel)
  refine (q_66_0 98 85 (k_191 L xs)).trans ?_
  try simp only [n191, s191_85, n192, s192_85, s192_86, n193, s193_85, s193_86, r193_0, n194, s194_85, s194_86, r194_0, E_192, E_193, E_194, ix_0, ix_1, ix_2, ix_3, ix_4, ix_5, ix_6, ix_7, ix_8, ix_9, ix_10, ix_14, ix_20, ix_24, ix_60, ix_96, ix_100, ix_120, ix_128, ix_2981, ix_3114, ix_4000]
  try rfl
theorem kc_49 : cV 98 66 [.ref 85] (k_191 L xs) = some (k_194 L xs) := i_66 (kt_49_0 L xs)
def k_195 (L : Nat) (xs : Nat → Int32) : aMem := setR (k_194 L xs) 83 2 85
def zr_195 : List (Nat × Nat × Nat) := (83, 2, 85) :: zr_193
theorem G_195 : Mk L xs 87 4150 zr_195 zf_194 (k_195 L xs) := mk_setR (G_194 L xs)
theorem E_195 : setR (k_194 L xs) 83 2 85 = k_195 L xs := rfl
theorem kt_50_0 : Rn 99 79 (0, [.ref 83], [], k_187 L xs) = some (none, k_195 L xs) := by
  have n187 := (G_187 L xs).N
  have s187_83 : mS (k_187 L xs) 83 = (6, 4) := (G_187 L xs).S 83 (by decide)
  have n188 := (G_188 L xs).N
  have s188_83 : mS (k_188 L xs) 83 = (6, 4) := (G_188 L xs).S 83 (by decide)
  have n189 := (G_189 L xs).N
  have s189_83 : mS (k_189 L xs) 83 = (6, 4) := (G_189 L xs).S 83 (by decide)
  have s189_84 : mS (k_189 L xs) 84 = (1, 5) := (G_189 L xs).S 84 (by decide)
  have n190 := (G_190 L xs).N
  have s190_83 : mS (k_190 L xs) 83 = (6, 4) := (G_190 L xs).S 83 (by decide)
  have s190_84 : mS (k_190 L xs) 84 = (1, 5) := (G_190 L xs).S 84 (by decide)
  have r190_1 : mR (k_190 L xs) 83 1 = 84 := ((G_190 L xs).R 83 1).trans (by decide +kernel)
  have n191 := (G_191 L xs).N
  have s191_83 : mS (k_191 L xs) 83 = (6, 4) := (G_191 L xs).S 83 (by decide)
  have s191_84 : mS (k_191 L xs) 84 = (1, 5) := (G_191 L xs).S 84 (by decide)
  have s191_85 : mS (k_191 L xs) 85 = (5, 3) := (G_191 L xs).S 85 (by decide)
  have r191_1 : mR (k_191 L xs) 83 1 = 84 := ((G_191 L xs).R 83 1).trans (by decide +kernel)
  have n194 := (G_194 L xs).N
  have s194_83 : mS (k_194 L xs) 83 = (6, 4) := (G_194 L xs).S 83 (by decide)
  have s194_84 : mS (k_194 L xs) 84 = (1, 5) := (G_194 L xs).S 84 (by decide)
  have s194_85 : mS (k_194 L xs) 85 = (5, 3) := (G_194 L xs).S 85 (by decide)
  have r194_1 : mR (k_194 L xs) 83 1 = 84 := ((G_194 L xs).R 83 1).trans (by decide +kernel)
  have n195 := (G_195 L xs).N
  have s195_83 : mS (k_195 L xs) 83 = (6, 4) := (G_195 L xs).S 83 (by decide)
  have s195_84 : mS (k_195 L xs) 84 = (1, 5) := (G_195 L xs).S 84 (by decide)
  have s195_85 : mS (k_195 L xs) 85 = (5, 3) := (G_195 L xs).S 85 (by decide)
  have r195_1 : mR (k_195 L xs) 83 1 = 84 := ((G_195 L xs).R 83 1).trans (by decide +kernel)
  have r195_2 : mR (k_195 L xs) 83 2 = 85 := ((G_195 L xs).R 83 2).trans (by decide +kernel)
  refine (q_79_0 98 83 (k_187 L xs)).trans ?_
  try simp only [n187, s187_83, n188, s188_83, n189, s189_83, s189_84, n190, s190_83, s190_84, r190_1, n191, s191_83, s191_84, s191_85, r191_1, n194, s194_83, s194_84, s194_85, r194_1, n195, s195_83, s195_84, s195_85, r195_1, r195_2, E_188, E_189, E_190, E_191, E_195, kc_48, kc_49, Option.bind_some, ix_0, ix_1, ix_2, ix_3, ix_4, ix_5, ix_6, ix_7, ix_8, ix_9, ix_10, ix_14, ix_20, ix_24, ix_60, ix_96, ix_100, ix_120, ix_128, ix_2981, ix_3114, ix_4000]
  try rfl
theorem kc_50 : cV 99 79 [.ref 83] (k_187 L xs) = some (k_195 L xs) := i_79 (kt_50_0 L xs)
def k_196 (L : Nat) (xs : Nat → Int32) : aMem := setR (k_195 L xs) 78 1 83
def zr_196 : List (Nat × Nat × Nat) := (78, 1, 83) :: zr_195
theorem G_196 : Mk L xs 87 4150 zr_196 zf_194 (k_196 L xs) := mk_setR (G_195 L xs)
theorem E_196 : setR (k_195 L xs) 78 1 83 = k_196 L xs := rfl
def k_197 (L : Nat) (xs : Nat → Int32) : aMem := newC (k_196 L xs) 6 4
theorem G_197 : Mk L xs 88 4154 zr_196 zf_194 (k_197 L xs) := mk_new (G_196 L xs) (by decide +kernel) (by decide +kernel) (by decide +kernel)
theorem E_197 : newC (k_196 L xs) 6 4 = k_197 L xs := rfl
def k_198 (L : Nat) (xs : Nat → Int32) : aMem := setF (k_197 L xs) 87 0 0
def zf_198 : List (Nat × Nat × Int32) := (87, 0, 0) :: zf_194
theorem G_198 : Mk L xs 88 4154 zr_196 zf_198 (k_198 L xs) := mk_setF (G_197 L xs) (by decide)
theorem E_198 : setF (k_197 L xs) 87 0 0 = k_198 L xs := rfl
def k_199 (L : Nat) (xs : Nat → Int32) : aMem := newC (k_198 L xs) 1 5
theorem G_199 : Mk L xs 89 4159 zr_196 zf_198 (k_199 L xs) := mk_new (G_198 L xs) (by decide +kernel) (by decide +kernel) (by decide +kernel)
theorem E_199 : newC (k_198 L xs) 1 5 = k_199 L xs := rfl
theorem kt_51_0 : Rn 98 5 (0, [.ref 88], [], k_199 L xs) = some (none, k_199 L xs) := by
  have n199 := (G_199 L xs).N
  have s199_88 : mS (k_199 L xs) 88 = (1, 5) := (G_199 L xs).S 88 (by decide)
  refine (q_5_0 98 88 (k_199 L xs)).trans ?_
  try simp only [n199, s199_88, ix_0, ix_1, ix_2, ix_3, ix_4, ix_5, ix_6, ix_7, ix_8, ix_9, ix_10, ix_14, ix_20, ix_24, ix_60, ix_96, ix_100, ix_120, ix_128, ix_2981, ix_3114, ix_4000]
  try rfl
theorem kc_51 : cV 98 5 [.ref 88] (k_199 L xs) = some (k_199 L xs) := i_5 (kt_51_0 L xs)
def k_200 (L : Nat) (xs : Nat → Int32) : aMem := setR (k_199 L xs) 87 1 88
def zr_200 : List (Nat × Nat × Nat) := (87, 1, 88) :: zr_196
theorem G_200 : Mk L xs 89 4159 zr_200 zf_198 (k_200 L xs) := mk_setR (G_199 L xs)
theorem E_200 : setR (k_199 L xs) 87 1 88 = k_200 L xs := rfl
def k_201 (L : Nat) (xs : Nat → Int32) : aMem := newC (k_200 L xs) 5 3
theorem G_201 : Mk L xs 90 4162 zr_200 zf_198 (k_201 L xs) := mk_new (G_200 L xs) (by decide +kernel) (by decide +kernel) (by decide +kernel)
theorem E_201 : newC (k_200 L xs) 5 3 = k_201 L xs := rfl
def k_202 (L : Nat) (xs : Nat → Int32) : aMem := newC (k_201 L xs) 10 24
theorem G_202 : Mk L xs 91 4186 zr_200 zf_198 (k_202 L xs) := mk_new (G_201 L xs) (by decide +kernel) (by decide +kernel) (by decide +kernel)
theorem E_202 : newC (k_201 L xs) 10 24 = k_202 L xs := rfl
def k_203 (L : Nat) (xs : Nat → Int32) : aMem := setR (k_202 L xs) 89 0 90
def zr_203 : List (Nat × Nat × Nat) := (89, 0, 90) :: zr_200
theorem G_203 : Mk L xs 91 4186 zr_203 zf_198 (k_203 L xs) := mk_setR (G_202 L xs)
theorem E_203 : setR (k_202 L xs) 89 0 90 = k_203 L xs := rfl
def k_204 (L : Nat) (xs : Nat → Int32) : aMem := setF (k_203 L xs) 89 1 (-1)
def zf_204 : List (Nat × Nat × Int32) := (89, 1, (-1)) :: zf_198
theorem G_204 : Mk L xs 91 4186 zr_203 zf_204 (k_204 L xs) := mk_setF (G_203 L xs) (by decide)
theorem E_204 : setF (k_203 L xs) 89 1 (-1) = k_204 L xs := rfl
theorem kt_52_0 : Rn 98 66 (0, [.ref 89], [], k_201 L xs) = some (none, k_204 L xs) := by
  have n201 := (G_201 L xs).N
  have s201_89 : mS (k_201 L xs) 89 = (5, 3) := (G_201 L xs).S 89 (by decide)
  have n202 := (G_202 L xs).N
  have s202_89 : mS (k_202 L xs) 89 = (5, 3) := (G_202 L xs).S 89 (by decide)
  have s202_90 : mS (k_202 L xs) 90 = (10, 24) := (G_202 L xs).S 90 (by decide)
  have n203 := (G_203 L xs).N
  have s203_89 : mS (k_203 L xs) 89 = (5, 3) := (G_203 L xs).S 89 (by decide)
  have s203_90 : mS (k_203 L xs) 90 = (10, 24) := (G_203 L xs).S 90 (by decide)
  have r203_0 : mR (k_203 L xs) 89 0 = 90 := ((G_203 L xs).R 89 0).trans (by decide +kernel)
  have n204 := (G_204 L xs).N
  have s204_89 : mS (k_204 L xs) 89 = (5, 3) := (G_204 L xs).S 89 (by decide)
  have s204_90 : mS (k_204 L xs) 90 = (10, 24) := (G_204 L xs).S 90 (by decide)
  have r204_0 : mR (k_204 L xs) 89 0 = 90 := ((G_204 L xs).R 89 0).trans (by decide +kernel)
  refine (q_66_0 98 89 (k_201 L xs)).trans ?_
  try simp only [n201, s201_89, n202, s202_89, s202_90, n203, s203_89, s203_90, r203_0, n204, s204_89, s204_90, r204_0, E_202, E_203, E_204, ix_0, ix_1, ix_2, ix_3, ix_4, ix_5, ix_6, ix_7, ix_8, ix_9, ix_10, ix_14, ix_20, ix_24, ix_60, ix_96, ix_100, ix_120, ix_128, ix_2981, ix_3114, ix_4000]
  try rfl
theorem kc_52 : cV 98 66 [.ref 89] (k_201 L xs) = some (k_204 L xs) := i_66 (kt_52_0 L xs)
def k_205 (L : Nat) (xs : Nat → Int32) : aMem := setR (k_204 L xs) 87 2 89
def zr_205 : List (Nat × Nat × Nat) := (87, 2, 89) :: zr_203
theorem G_205 : Mk L xs 91 4186 zr_205 zf_204 (k_205 L xs) := mk_setR (G_204 L xs)
theorem E_205 : setR (k_204 L xs) 87 2 89 = k_205 L xs := rfl
theorem kt_53_0 : Rn 99 79 (0, [.ref 87], [], k_197 L xs) = some (none, k_205 L xs) := by
  have n197 := (G_197 L xs).N
  have s197_87 : mS (k_197 L xs) 87 = (6, 4) := (G_197 L xs).S 87 (by decide)
  have n198 := (G_198 L xs).N
  have s198_87 : mS (k_198 L xs) 87 = (6, 4) := (G_198 L xs).S 87 (by decide)
  have n199 := (G_199 L xs).N
  have s199_87 : mS (k_199 L xs) 87 = (6, 4) := (G_199 L xs).S 87 (by decide)
  have s199_88 : mS (k_199 L xs) 88 = (1, 5) := (G_199 L xs).S 88 (by decide)
  have n200 := (G_200 L xs).N
  have s200_87 : mS (k_200 L xs) 87 = (6, 4) := (G_200 L xs).S 87 (by decide)
  have s200_88 : mS (k_200 L xs) 88 = (1, 5) := (G_200 L xs).S 88 (by decide)
  have r200_1 : mR (k_200 L xs) 87 1 = 88 := ((G_200 L xs).R 87 1).trans (by decide +kernel)
  have n201 := (G_201 L xs).N
  have s201_87 : mS (k_201 L xs) 87 = (6, 4) := (G_201 L xs).S 87 (by decide)
  have s201_88 : mS (k_201 L xs) 88 = (1, 5) := (G_201 L xs).S 88 (by decide)
  have s201_89 : mS (k_201 L xs) 89 = (5, 3) := (G_201 L xs).S 89 (by decide)
  have r201_1 : mR (k_201 L xs) 87 1 = 88 := ((G_201 L xs).R 87 1).trans (by decide +kernel)
  have n204 := (G_204 L xs).N
  have s204_87 : mS (k_204 L xs) 87 = (6, 4) := (G_204 L xs).S 87 (by decide)
  have s204_88 : mS (k_204 L xs) 88 = (1, 5) := (G_204 L xs).S 88 (by decide)
  have s204_89 : mS (k_204 L xs) 89 = (5, 3) := (G_204 L xs).S 89 (by decide)
  have r204_1 : mR (k_204 L xs) 87 1 = 88 := ((G_204 L xs).R 87 1).trans (by decide +kernel)
  have n205 := (G_205 L xs).N
  have s205_87 : mS (k_205 L xs) 87 = (6, 4) := (G_205 L xs).S 87 (by decide)
  have s205_88 : mS (k_205 L xs) 88 = (1, 5) := (G_205 L xs).S 88 (by decide)
  have s205_89 : mS (k_205 L xs) 89 = (5, 3) := (G_205 L xs).S 89 (by decide)
  have r205_1 : mR (k_205 L xs) 87 1 = 88 := ((G_205 L xs).R 87 1).trans (by decide +kernel)
  have r205_2 : mR (k_205 L xs) 87 2 = 89 := ((G_205 L xs).R 87 2).trans (by decide +kernel)
  refine (q_79_0 98 87 (k_197 L xs)).trans ?_
  try simp only [n197, s197_87, n198, s198_87, n199, s199_87, s199_88, n200, s200_87, s200_88, r200_1, n201, s201_87, s201_88, s201_89, r201_1, n204, s204_87, s204_88, s204_89, r204_1, n205, s205_87, s205_88, s205_89, r205_1, r205_2, E_198, E_199, E_200, E_201, E_205, kc_51, kc_52, Option.bind_some, ix_0, ix_1, ix_2, ix_3, ix_4, ix_5, ix_6, ix_7, ix_8, ix_9, ix_10, ix_14, ix_20, ix_24, ix_60, ix_96, ix_100, ix_120, ix_128, ix_2981, ix_3114, ix_4000]
  try rfl
theorem kc_53 : cV 99 79 [.ref 87] (k_197 L xs) = some (k_205 L xs) := i_79 (kt_53_0 L xs)
def k_206 (L : Nat) (xs : Nat → Int32) : aMem := setR (k_205 L xs) 78 2 87
def zr_206 : List (Nat × Nat × Nat) := (78, 2, 87) :: zr_205
theorem G_206 : Mk L xs 91 4186 zr_206 zf_204 (k_206 L xs) := mk_setR (G_205 L xs)
theorem E_206 : setR (k_205 L xs) 78 2 87 = k_206 L xs := rfl
def k_207 (L : Nat) (xs : Nat → Int32) : aMem := newC (k_206 L xs) 6 4
theorem G_207 : Mk L xs 92 4190 zr_206 zf_204 (k_207 L xs) := mk_new (G_206 L xs) (by decide +kernel) (by decide +kernel) (by decide +kernel)
theorem E_207 : newC (k_206 L xs) 6 4 = k_207 L xs := rfl
def k_208 (L : Nat) (xs : Nat → Int32) : aMem := setF (k_207 L xs) 91 0 0
def zf_208 : List (Nat × Nat × Int32) := (91, 0, 0) :: zf_204
theorem G_208 : Mk L xs 92 4190 zr_206 zf_208 (k_208 L xs) := mk_setF (G_207 L xs) (by decide)
theorem E_208 : setF (k_207 L xs) 91 0 0 = k_208 L xs := rfl
def k_209 (L : Nat) (xs : Nat → Int32) : aMem := newC (k_208 L xs) 1 5
theorem G_209 : Mk L xs 93 4195 zr_206 zf_208 (k_209 L xs) := mk_new (G_208 L xs) (by decide +kernel) (by decide +kernel) (by decide +kernel)
theorem E_209 : newC (k_208 L xs) 1 5 = k_209 L xs := rfl
theorem kt_54_0 : Rn 98 5 (0, [.ref 92], [], k_209 L xs) = some (none, k_209 L xs) := by
  have n209 := (G_209 L xs).N
  have s209_92 : mS (k_209 L xs) 92 = (1, 5) := (G_209 L xs).S 92 (by decide)
  refine (q_5_0 98 92 (k_209 L xs)).trans ?_
  try simp only [n209, s209_92, ix_0, ix_1, ix_2, ix_3, ix_4, ix_5, ix_6, ix_7, ix_8, ix_9, ix_10, ix_14, ix_20, ix_24, ix_60, ix_96, ix_100, ix_120, ix_128, ix_2981, ix_3114, ix_4000]
  try rfl
theorem kc_54 : cV 98 5 [.ref 92] (k_209 L xs) = some (k_209 L xs) := i_5 (kt_54_0 L xs)
def k_210 (L : Nat) (xs : Nat → Int32) : aMem := setR (k_209 L xs) 91 1 92
def zr_210 : List (Nat × Nat × Nat) := (91, 1, 92) :: zr_206
theorem G_210 : Mk L xs 93 4195 zr_210 zf_208 (k_210 L xs) := mk_setR (G_209 L xs)
theorem E_210 : setR (k_209 L xs) 91 1 92 = k_210 L xs := rfl
def k_211 (L : Nat) (xs : Nat → Int32) : aMem := newC (k_210 L xs) 5 3
theorem G_211 : Mk L xs 94 4198 zr_210 zf_208 (k_211 L xs) := mk_new (G_210 L xs) (by decide +kernel) (by decide +kernel) (by decide +kernel)
theorem E_211 : newC (k_210 L xs) 5 3 = k_211 L xs := rfl
def k_212 (L : Nat) (xs : Nat → Int32) : aMem := newC (k_211 L xs) 10 24
theorem G_212 : Mk L xs 95 4222 zr_210 zf_208 (k_212 L xs) := mk_new (G_211 L xs) (by decide +kernel) (by decide +kernel) (by decide +kernel)
theorem E_212 : newC (k_211 L xs) 10 24 = k_212 L xs := rfl
def k_213 (L : Nat) (xs : Nat → Int32) : aMem := setR (k_212 L xs) 93 0 94
def zr_213 : List (Nat × Nat × Nat) := (93, 0, 94) :: zr_210
theorem G_213 : Mk L xs 95 4222 zr_213 zf_208 (k_213 L xs) := mk_setR (G_212 L xs)
theorem E_213 : setR (k_212 L xs) 93 0 94 = k_213 L xs := rfl
def k_214 (L : Nat) (xs : Nat → Int32) : aMem := setF (k_213 L xs) 93 1 (-1)
def zf_214 : List (Nat × Nat × Int32) := (93, 1, (-1)) :: zf_208
theorem G_214 : Mk L xs 95 4222 zr_213 zf_214 (k_214 L xs) := mk_setF (G_213 L xs) (by decide)
theorem E_214 : setF (k_213 L xs) 93 1 (-1) = k_214 L xs := rfl
theorem kt_55_0 : Rn 98 66 (0, [.ref 93], [], k_211 L xs) = some (none, k_214 L xs) := by
  have n211 := (G_211 L xs).N
  have s211_93 : mS (k_211 L xs) 93 = (5, 3) := (G_211 L xs).S 93 (by decide)
  have n212 := (G_212 L xs).N
  have s212_93 : mS (k_212 L xs) 93 = (5, 3) := (G_212 L xs).S 93 (by decide)
  have s212_94 : mS (k_212 L xs) 94 = (10, 24) := (G_212 L xs).S 94 (by decide)
  have n213 := (G_213 L xs).N
  have s213_93 : mS (k_213 L xs) 93 = (5, 3) := (G_213 L xs).S 93 (by decide)
  have s213_94 : mS (k_213 L xs) 94 = (10, 24) := (G_213 L xs).S 94 (by decide)
  have r213_0 : mR (k_213 L xs) 93 0 = 94 := ((G_213 L xs).R 93 0).trans (by decide +kernel)
  have n214 := (G_214 L xs).N
  have s214_93 : mS (k_214 L xs) 93 = (5, 3) := (G_214 L xs).S 93 (by decide)
  have s214_94 : mS (k_214 L xs) 94 = (10, 24) := (G_214 L xs).S 94 (by decide)
  have r214_0 : mR (k_214 L xs) 93 0 = 94 := ((G_214 L xs).R 93 0).trans (by decide +kernel)
  refine (q_66_0 98 93 (k_211 L xs)).trans ?_
  try simp only [n211, s211_93, n212, s212_93, s212_94, n213, s213_93, s213_94, r213_0, n214, s214_93, s214_94, r214_0, E_212, E_213, E_214, ix_0, ix_1, ix_2, ix_3, ix_4, ix_5, ix_6, ix_7, ix_8, ix_9, ix_10, ix_14, ix_20, ix_24, ix_60, ix_96, ix_100, ix_120, ix_128, ix_2981, ix_3114, ix_4000]
  try rfl
theorem kc_55 : cV 98 66 [.ref 93] (k_211 L xs) = some (k_214 L xs) := i_66 (kt_55_0 L xs)
def k_215 (L : Nat) (xs : Nat → Int32) : aMem := setR (k_214 L xs) 91 2 93
def zr_215 : List (Nat × Nat × Nat) := (91, 2, 93) :: zr_213
theorem G_215 : Mk L xs 95 4222 zr_215 zf_214 (k_215 L xs) := mk_setR (G_214 L xs)
theorem E_215 : setR (k_214 L xs) 91 2 93 = k_215 L xs := rfl
theorem kt_56_0 : Rn 99 79 (0, [.ref 91], [], k_207 L xs) = some (none, k_215 L xs) := by
  have n207 := (G_207 L xs).N
  have s207_91 : mS (k_207 L xs) 91 = (6, 4) := (G_207 L xs).S 91 (by decide)
  have n208 := (G_208 L xs).N
  have s208_91 : mS (k_208 L xs) 91 = (6, 4) := (G_208 L xs).S 91 (by decide)
  have n209 := (G_209 L xs).N
  have s209_91 : mS (k_209 L xs) 91 = (6, 4) := (G_209 L xs).S 91 (by decide)
  have s209_92 : mS (k_209 L xs) 92 = (1, 5) := (G_209 L xs).S 92 (by decide)
  have n210 := (G_210 L xs).N
  have s210_91 : mS (k_210 L xs) 91 = (6, 4) := (G_210 L xs).S 91 (by decide)
  have s210_92 : mS (k_210 L xs) 92 = (1, 5) := (G_210 L xs).S 92 (by decide)
  have r210_1 : mR (k_210 L xs) 91 1 = 92 := ((G_210 L xs).R 91 1).trans (by decide +kernel)
  have n211 := (G_211 L xs).N
  have s211_91 : mS (k_211 L xs) 91 = (6, 4) := (G_211 L xs).S 91 (by decide)
  have s211_92 : mS (k_211 L xs) 92 = (1, 5) := (G_211 L xs).S 92 (by decide)
  have s211_93 : mS (k_211 L xs) 93 = (5, 3) := (G_211 L xs).S 93 (by decide)
  have r211_1 : mR (k_211 L xs) 91 1 = 92 := ((G_211 L xs).R 91 1).trans (by decide +kernel)
  have n214 := (G_214 L xs).N
  have s214_91 : mS (k_214 L xs) 91 = (6, 4) := (G_214 L xs).S 91 (by decide)
  have s214_92 : mS (k_214 L xs) 92 = (1, 5) := (G_214 L xs).S 92 (by decide)
  have s214_93 : mS (k_214 L xs) 93 = (5, 3) := (G_214 L xs).S 93 (by decide)
  have r214_1 : mR (k_214 L xs) 91 1 = 92 := ((G_214 L xs).R 91 1).trans (by decide +kernel)
  have n215 := (G_215 L xs).N
  have s215_91 : mS (k_215 L xs) 91 = (6, 4) := (G_215 L xs).S 91 (by decide)
  have s215_92 : mS (k_215 L xs) 92 = (1, 5) := (G_215 L xs).S 92 (by decide)
  have s215_93 : mS (k_215 L xs) 93 = (5, 3) := (G_215 L xs).S 93 (by decide)
  have r215_1 : mR (k_215 L xs) 91 1 = 92 := ((G_215 L xs).R 91 1).trans (by decide +kernel)
  have r215_2 : mR (k_215 L xs) 91 2 = 93 := ((G_215 L xs).R 91 2).trans (by decide +kernel)
  refine (q_79_0 98 91 (k_207 L xs)).trans ?_
  try simp only [n207, s207_91, n208, s208_91, n209, s209_91, s209_92, n210, s210_91, s210_92, r210_1, n211, s211_91, s211_92, s211_93, r211_1, n214, s214_91, s214_92, s214_93, r214_1, n215, s215_91, s215_92, s215_93, r215_1, r215_2, E_208, E_209, E_210, E_211, E_215, kc_54, kc_55, Option.bind_some, ix_0, ix_1, ix_2, ix_3, ix_4, ix_5, ix_6, ix_7, ix_8, ix_9, ix_10, ix_14, ix_20, ix_24, ix_60, ix_96, ix_100, ix_120, ix_128, ix_2981, ix_3114, ix_4000]
  try rfl
theorem kc_56 : cV 99 79 [.ref 91] (k_207 L xs) = some (k_215 L xs) := i_79 (kt_56_0 L xs)
def k_216 (L : Nat) (xs : Nat → Int32) : aMem := setR (k_215 L xs) 78 3 91
def zr_216 : List (Nat × Nat × Nat) := (78, 3, 91) :: zr_215
theorem G_216 : Mk L xs 95 4222 zr_216 zf_214 (k_216 L xs) := mk_setR (G_215 L xs)
theorem E_216 : setR (k_215 L xs) 78 3 91 = k_216 L xs := rfl
def k_217 (L : Nat) (xs : Nat → Int32) : aMem := newC (k_216 L xs) 6 4
theorem G_217 : Mk L xs 96 4226 zr_216 zf_214 (k_217 L xs) := mk_new (G_216 L xs) (by decide +kernel) (by decide +kernel) (by decide +kernel)
theorem E_217 : newC (k_216 L xs) 6 4 = k_217 L xs := rfl
def k_218 (L : Nat) (xs : Nat → Int32) : aMem := setF (k_217 L xs) 95 0 0
def zf_218 : List (Nat × Nat × Int32) := (95, 0, 0) :: zf_214
theorem G_218 : Mk L xs 96 4226 zr_216 zf_218 (k_218 L xs) := mk_setF (G_217 L xs) (by decide)
theorem E_218 : setF (k_217 L xs) 95 0 0 = k_218 L xs := rfl
def k_219 (L : Nat) (xs : Nat → Int32) : aMem := newC (k_218 L xs) 1 5
theorem G_219 : Mk L xs 97 4231 zr_216 zf_218 (k_219 L xs) := mk_new (G_218 L xs) (by decide +kernel) (by decide +kernel) (by decide +kernel)
theorem E_219 : newC (k_218 L xs) 1 5 = k_219 L xs := rfl
theorem kt_57_0 : Rn 98 5 (0, [.ref 96], [], k_219 L xs) = some (none, k_219 L xs) := by
  have n219 := (G_219 L xs).N
  have s219_96 : mS (k_219 L xs) 96 = (1, 5) := (G_219 L xs).S 96 (by decide)
  refine (q_5_0 98 96 (k_219 L xs)).trans ?_
  try simp only [n219, s219_96, ix_0, ix_1, ix_2, ix_3, ix_4, ix_5, ix_6, ix_7, ix_8, ix_9, ix_10, ix_14, ix_20, ix_24, ix_60, ix_96, ix_100, ix_120, ix_128, ix_2981, ix_3114, ix_4000]
  try rfl
theorem kc_57 : cV 98 5 [.ref 96] (k_219 L xs) = some (k_219 L xs) := i_5 (kt_57_0 L xs)
def k_220 (L : Nat) (xs : Nat → Int32) : aMem := setR (k_219 L xs) 95 1 96
def zr_220 : List (Nat × Nat × Nat) := (95, 1, 96) :: zr_216
theorem G_220 : Mk L xs 97 4231 zr_220 zf_218 (k_220 L xs) := mk_setR (G_219 L xs)
theorem E_220 : setR (k_219 L xs) 95 1 96 = k_220 L xs := rfl
def k_221 (L : Nat) (xs : Nat → Int32) : aMem := newC (k_220 L xs) 5 3
theorem G_221 : Mk L xs 98 4234 zr_220 zf_218 (k_221 L xs) := mk_new (G_220 L xs) (by decide +kernel) (by decide +kernel) (by decide +kernel)
theorem E_221 : newC (k_220 L xs) 5 3 = k_221 L xs := rfl
def k_222 (L : Nat) (xs : Nat → Int32) : aMem := newC (k_221 L xs) 10 24
theorem G_222 : Mk L xs 99 4258 zr_220 zf_218 (k_222 L xs) := mk_new (G_221 L xs) (by decide +kernel) (by decide +kernel) (by decide +kernel)
theorem E_222 : newC (k_221 L xs) 10 24 = k_222 L xs := rfl
def k_223 (L : Nat) (xs : Nat → Int32) : aMem := setR (k_222 L xs) 97 0 98
def zr_223 : List (Nat × Nat × Nat) := (97, 0, 98) :: zr_220
theorem G_223 : Mk L xs 99 4258 zr_223 zf_218 (k_223 L xs) := mk_setR (G_222 L xs)
theorem E_223 : setR (k_222 L xs) 97 0 98 = k_223 L xs := rfl
def k_224 (L : Nat) (xs : Nat → Int32) : aMem := setF (k_223 L xs) 97 1 (-1)
def zf_224 : List (Nat × Nat × Int32) := (97, 1, (-1)) :: zf_218
theorem G_224 : Mk L xs 99 4258 zr_223 zf_224 (k_224 L xs) := mk_setF (G_223 L xs) (by decide)
theorem E_224 : setF (k_223 L xs) 97 1 (-1) = k_224 L xs := rfl
theorem kt_58_0 : Rn 98 66 (0, [.ref 97], [], k_221 L xs) = some (none, k_224 L xs) := by
  have n221 := (G_221 L xs).N
  have s221_97 : mS (k_221 L xs) 97 = (5, 3) := (G_221 L xs).S 97 (by decide)
  have n222 := (G_222 L xs).N
  have s222_97 : mS (k_222 L xs) 97 = (5, 3) := (G_222 L xs).S 97 (by decide)
  have s222_98 : mS (k_222 L xs) 98 = (10, 24) := (G_222 L xs).S 98 (by decide)
  have n223 := (G_223 L xs).N
  have s223_97 : mS (k_223 L xs) 97 = (5, 3) := (G_223 L xs).S 97 (by decide)
  have s223_98 : mS (k_223 L xs) 98 = (10, 24) := (G_223 L xs).S 98 (by decide)
  have r223_0 : mR (k_223 L xs) 97 0 = 98 := ((G_223 L xs).R 97 0).trans (by decide +kernel)
  have n224 := (G_224 L xs).N
  have s224_97 : mS (k_224 L xs) 97 = (5, 3) := (G_224 L xs).S 97 (by decide)
  have s224_98 : mS (k_224 L xs) 98 = (10, 24) := (G_224 L xs).S 98 (by decide)
  have r224_0 : mR (k_224 L xs) 97 0 = 98 := ((G_224 L xs).R 97 0).trans (by decide +kernel)
  refine (q_66_0 98 97 (k_221 L xs)).trans ?_
  try simp only [n221, s221_97, n222, s222_97, s222_98, n223, s223_97, s223_98, r223_0, n224, s224_97, s224_98, r224_0, E_222, E_223, E_224, ix_0, ix_1, ix_2, ix_3, ix_4, ix_5, ix_6, ix_7, ix_8, ix_9, ix_10, ix_14, ix_20, ix_24, ix_60, ix_96, ix_100, ix_120, ix_128, ix_2981, ix_3114, ix_4000]
  try rfl
theorem kc_58 : cV 98 66 [.ref 97] (k_221 L xs) = some (k_224 L xs) := i_66 (kt_58_0 L xs)
def k_225 (L : Nat) (xs : Nat → Int32) : aMem := setR (k_224 L xs) 95 2 97
def zr_225 : List (Nat × Nat × Nat) := (95, 2, 97) :: zr_223
theorem G_225 : Mk L xs 99 4258 zr_225 zf_224 (k_225 L xs) := mk_setR (G_224 L xs)
theorem E_225 : setR (k_224 L xs) 95 2 97 = k_225 L xs := rfl
theorem kt_59_0 : Rn 99 79 (0, [.ref 95], [], k_217 L xs) = some (none, k_225 L xs) := by
  have n217 := (G_217 L xs).N
  have s217_95 : mS (k_217 L xs) 95 = (6, 4) := (G_217 L xs).S 95 (by decide)
  have n218 := (G_218 L xs).N
  have s218_95 : mS (k_218 L xs) 95 = (6, 4) := (G_218 L xs).S 95 (by decide)
  have n219 := (G_219 L xs).N
  have s219_95 : mS (k_219 L xs) 95 = (6, 4) := (G_219 L xs).S 95 (by decide)
  have s219_96 : mS (k_219 L xs) 96 = (1, 5) := (G_219 L xs).S 96 (by decide)
  have n220 := (G_220 L xs).N
  have s220_95 : mS (k_220 L xs) 95 = (6, 4) := (G_220 L xs).S 95 (by decide)
  have s220_96 : mS (k_220 L xs) 96 = (1, 5) := (G_220 L xs).S 96 (by decide)
  have r220_1 : mR (k_220 L xs) 95 1 = 96 := ((G_220 L xs).R 95 1).trans (by decide +kernel)
  have n221 := (G_221 L xs).N
  have s221_95 : mS (k_221 L xs) 95 = (6, 4) := (G_221 L xs).S 95 (by decide)
  have s221_96 : mS (k_221 L xs) 96 = (1, 5) := (G_221 L xs).S 96 (by decide)
  have s221_97 : mS (k_221 L xs) 97 = (5, 3) := (G_221 L xs).S 97 (by decide)
  have r221_1 : mR (k_221 L xs) 95 1 = 96 := ((G_221 L xs).R 95 1).trans (by decide +kernel)
  have n224 := (G_224 L xs).N
  have s224_95 : mS (k_224 L xs) 95 = (6, 4) := (G_224 L xs).S 95 (by decide)
  have s224_96 : mS (k_224 L xs) 96 = (1, 5) := (G_224 L xs).S 96 (by decide)
  have s224_97 : mS (k_224 L xs) 97 = (5, 3) := (G_224 L xs).S 97 (by decide)
  have r224_1 : mR (k_224 L xs) 95 1 = 96 := ((G_224 L xs).R 95 1).trans (by decide +kernel)
  have n225 := (G_225 L xs).N
  have s225_95 : mS (k_225 L xs) 95 = (6, 4) := (G_225 L xs).S 95 (by decide)
  have s225_96 : mS (k_225 L xs) 96 = (1, 5) := (G_225 L xs).S 96 (by decide)
  have s225_97 : mS (k_225 L xs) 97 = (5, 3) := (G_225 L xs).S 97 (by decide)
  have r225_1 : mR (k_225 L xs) 95 1 = 96 := ((G_225 L xs).R 95 1).trans (by decide +kernel)
  have r225_2 : mR (k_225 L xs) 95 2 = 97 := ((G_225 L xs).R 95 2).trans (by decide +kernel)
  refine (q_79_0 98 95 (k_217 L xs)).trans ?_
  try simp only [n217, s217_95, n218, s218_95, n219, s219_95, s219_96, n220, s220_95, s220_96, r220_1, n221, s221_95, s221_96, s221_97, r221_1, n224, s224_95, s224_96, s224_97, r224_1, n225, s225_95, s225_96, s225_97, r225_1, r225_2, E_218, E_219, E_220, E_221, E_225, kc_57, kc_58, Option.bind_some, ix_0, ix_1, ix_2, ix_3, ix_4, ix_5, ix_6, ix_7, ix_8, ix_9, ix_10, ix_14, ix_20, ix_24, ix_60, ix_96, ix_100, ix_120, ix_128, ix_2981, ix_3114, ix_4000]
  try rfl
theorem kc_59 : cV 99 79 [.ref 95] (k_217 L xs) = some (k_225 L xs) := i_79 (kt_59_0 L xs)
def k_226 (L : Nat) (xs : Nat → Int32) : aMem := setR (k_225 L xs) 78 4 95
def zr_226 : List (Nat × Nat × Nat) := (78, 4, 95) :: zr_225
theorem G_226 : Mk L xs 99 4258 zr_226 zf_224 (k_226 L xs) := mk_setR (G_225 L xs)
theorem E_226 : setR (k_225 L xs) 78 4 95 = k_226 L xs := rfl
theorem kt_60_0 : Rn 100 81 (0, [.ref 0, un], [], k_1 L xs) = Rn 100 81 (15, [.ref 0, un], [], k_41 L xs) := by
  have n1 := (G_1 L xs).N
  have s1_0 : mS (k_1 L xs) 0 = (8, 12) := (G_1 L xs).S 0 (by decide)
  have n2 := (G_2 L xs).N
  have s2_0 : mS (k_2 L xs) 0 = (8, 12) := (G_2 L xs).S 0 (by decide)
  have s2_1 : mS (k_2 L xs) 1 = (2, 7) := (G_2 L xs).S 1 (by decide)
  have n40 := (G_40 L xs).N
  have s40_0 : mS (k_40 L xs) 0 = (8, 12) := (G_40 L xs).S 0 (by decide)
  have s40_1 : mS (k_40 L xs) 1 = (2, 7) := (G_40 L xs).S 1 (by decide)
  have n41 := (G_41 L xs).N
  have s41_0 : mS (k_41 L xs) 0 = (8, 12) := (G_41 L xs).S 0 (by decide)
  have s41_1 : mS (k_41 L xs) 1 = (2, 7) := (G_41 L xs).S 1 (by decide)
  have r41_0 : mR (k_41 L xs) 0 0 = 1 := ((G_41 L xs).R 0 0).trans (by decide +kernel)
  refine (q_81_0 99 0 (k_1 L xs)).trans ?_
  try simp only [n1, s1_0, n2, s2_0, s2_1, n40, s40_0, s40_1, n41, s41_0, s41_1, r41_0, E_2, E_41, kc_12, Option.bind_some, ix_0, ix_1, ix_2, ix_3, ix_4, ix_5, ix_6, ix_7, ix_8, ix_9, ix_10, ix_14, ix_20, ix_24, ix_60, ix_96, ix_100, ix_120, ix_128, ix_2981, ix_3114, ix_4000]
  try rfl
theorem kt_60_1 : Rn 100 81 (15, [.ref 0, un], [], k_41 L xs) = Rn 100 81 (26, [.ref 0, un], [], k_81 L xs) := by
  have n41 := (G_41 L xs).N
  have s41_0 : mS (k_41 L xs) 0 = (8, 12) := (G_41 L xs).S 0 (by decide)
  have n42 := (G_42 L xs).N
  have s42_0 : mS (k_42 L xs) 0 = (8, 12) := (G_42 L xs).S 0 (by decide)
  have s42_19 : mS (k_42 L xs) 19 = (2, 7) := (G_42 L xs).S 19 (by decide)
  have n80 := (G_80 L xs).N
  have s80_0 : mS (k_80 L xs) 0 = (8, 12) := (G_80 L xs).S 0 (by decide)
  have s80_19 : mS (k_80 L xs) 19 = (2, 7) := (G_80 L xs).S 19 (by decide)
  have n81 := (G_81 L xs).N
  have s81_0 : mS (k_81 L xs) 0 = (8, 12) := (G_81 L xs).S 0 (by decide)
  have s81_19 : mS (k_81 L xs) 19 = (2, 7) := (G_81 L xs).S 19 (by decide)
  have r81_1 : mR (k_81 L xs) 0 1 = 19 := ((G_81 L xs).R 0 1).trans (by decide +kernel)
  refine (q_81_15 99 0 un (k_41 L xs)).trans ?_
  try simp only [n41, s41_0, n42, s42_0, s42_19, n80, s80_0, s80_19, n81, s81_0, s81_19, r81_1, E_42, E_81, kc_25, Option.bind_some, ix_0, ix_1, ix_2, ix_3, ix_4, ix_5, ix_6, ix_7, ix_8, ix_9, ix_10, ix_14, ix_20, ix_24, ix_60, ix_96, ix_100, ix_120, ix_128, ix_2981, ix_3114, ix_4000]
  try rfl
theorem kt_60_2 : Rn 100 81 (26, [.ref 0, un], [], k_81 L xs) = Rn 100 81 (37, [.ref 0, un], [], k_121 L xs) := by
  have n81 := (G_81 L xs).N
  have s81_0 : mS (k_81 L xs) 0 = (8, 12) := (G_81 L xs).S 0 (by decide)
  have n82 := (G_82 L xs).N
  have s82_0 : mS (k_82 L xs) 0 = (8, 12) := (G_82 L xs).S 0 (by decide)
  have s82_37 : mS (k_82 L xs) 37 = (2, 7) := (G_82 L xs).S 37 (by decide)
  have n120 := (G_120 L xs).N
  have s120_0 : mS (k_120 L xs) 0 = (8, 12) := (G_120 L xs).S 0 (by decide)
  have s120_37 : mS (k_120 L xs) 37 = (2, 7) := (G_120 L xs).S 37 (by decide)
  have n121 := (G_121 L xs).N
  have s121_0 : mS (k_121 L xs) 0 = (8, 12) := (G_121 L xs).S 0 (by decide)
  have s121_37 : mS (k_121 L xs) 37 = (2, 7) := (G_121 L xs).S 37 (by decide)
  have r121_2 : mR (k_121 L xs) 0 2 = 37 := ((G_121 L xs).R 0 2).trans (by decide +kernel)
  refine (q_81_26 99 0 un (k_81 L xs)).trans ?_
  try simp only [n81, s81_0, n82, s82_0, s82_37, n120, s120_0, s120_37, n121, s121_0, s121_37, r121_2, E_82, E_121, kc_38, Option.bind_some, ix_0, ix_1, ix_2, ix_3, ix_4, ix_5, ix_6, ix_7, ix_8, ix_9, ix_10, ix_14, ix_20, ix_24, ix_60, ix_96, ix_100, ix_120, ix_128, ix_2981, ix_3114, ix_4000]
  try rfl
theorem kt_60_3 : Rn 100 81 (37, [.ref 0, un], [], k_121 L xs) = Rn 100 81 (42, [.ref 0, un], [], k_122 L xs) := by
  have n121 := (G_121 L xs).N
  have s121_0 : mS (k_121 L xs) 0 = (8, 12) := (G_121 L xs).S 0 (by decide)
  have n122 := (G_122 L xs).N
  have s122_0 : mS (k_122 L xs) 0 = (8, 12) := (G_122 L xs).S 0 (by decide)
  refine (q_81_37 99 0 un (k_121 L xs)).trans ?_
  try simp only [n121, s121_0, n122, s122_0, E_122, ix_0, ix_1, ix_2, ix_3, ix_4, ix_5, ix_6, ix_7, ix_8, ix_9, ix_10, ix_14, ix_20, ix_24, ix_60, ix_96, ix_100, ix_120, ix_128, ix_2981, ix_3114, ix_4000]
  try rfl
theorem kt_60_4 : Rn 100 81 (42, [.ref 0, un], [], k_122 L xs) = Rn 100 81 (53, [.ref 0, un], [], k_140 L xs) := by
  have n122 := (G_122 L xs).N
  have s122_0 : mS (k_122 L xs) 0 = (8, 12) := (G_122 L xs).S 0 (by decide)
  have n123 := (G_123 L xs).N
  have s123_0 : mS (k_123 L xs) 0 = (8, 12) := (G_123 L xs).S 0 (by decide)
  have s123_55 : mS (k_123 L xs) 55 = (4, 10) := (G_123 L xs).S 55 (by decide)
  have n139 := (G_139 L xs).N
  have s139_0 : mS (k_139 L xs) 0 = (8, 12) := (G_139 L xs).S 0 (by decide)
  have s139_55 : mS (k_139 L xs) 55 = (4, 10) := (G_139 L xs).S 55 (by decide)
  have n140 := (G_140 L xs).N
  have s140_0 : mS (k_140 L xs) 0 = (8, 12) := (G_140 L xs).S 0 (by decide)
  have s140_55 : mS (k_140 L xs) 55 = (4, 10) := (G_140 L xs).S 55 (by decide)
  have r140_4 : mR (k_140 L xs) 0 4 = 55 := ((G_140 L xs).R 0 4).trans (by decide +kernel)
  refine (q_81_42 99 0 un (k_122 L xs)).trans ?_
  try simp only [n122, s122_0, n123, s123_0, s123_55, n139, s139_0, s139_55, n140, s140_0, s140_55, r140_4, E_123, E_140, kc_39, Option.bind_some, ix_0, ix_1, ix_2, ix_3, ix_4, ix_5, ix_6, ix_7, ix_8, ix_9, ix_10, ix_14, ix_20, ix_24, ix_60, ix_96, ix_100, ix_120, ix_128, ix_2981, ix_3114, ix_4000]
  try rfl
theorem kt_60_5 : Rn 100 81 (53, [.ref 0, un], [], k_140 L xs) = Rn 100 81 (64, [.ref 0, un], [], k_146 L xs) := by
  have n140 := (G_140 L xs).N
  have s140_0 : mS (k_140 L xs) 0 = (8, 12) := (G_140 L xs).S 0 (by decide)
  have n141 := (G_141 L xs).N
  have s141_0 : mS (k_141 L xs) 0 = (8, 12) := (G_141 L xs).S 0 (by decide)
  have s141_64 : mS (k_141 L xs) 64 = (3, 10) := (G_141 L xs).S 64 (by decide)
  have n145 := (G_145 L xs).N
  have s145_0 : mS (k_145 L xs) 0 = (8, 12) := (G_145 L xs).S 0 (by decide)
  have s145_64 : mS (k_145 L xs) 64 = (3, 10) := (G_145 L xs).S 64 (by decide)
  have n146 := (G_146 L xs).N
  have s146_0 : mS (k_146 L xs) 0 = (8, 12) := (G_146 L xs).S 0 (by decide)
  have s146_64 : mS (k_146 L xs) 64 = (3, 10) := (G_146 L xs).S 64 (by decide)
  have r146_5 : mR (k_146 L xs) 0 5 = 64 := ((G_146 L xs).R 0 5).trans (by decide +kernel)
  refine (q_81_53 99 0 un (k_140 L xs)).trans ?_
  try simp only [n140, s140_0, n141, s141_0, s141_64, n145, s145_0, s145_64, n146, s146_0, s146_64, r146_5, E_141, E_146, kc_40, Option.bind_some, ix_0, ix_1, ix_2, ix_3, ix_4, ix_5, ix_6, ix_7, ix_8, ix_9, ix_10, ix_14, ix_20, ix_24, ix_60, ix_96, ix_100, ix_120, ix_128, ix_2981, ix_3114, ix_4000]
  try rfl
theorem kt_60_6 : Rn 100 81 (64, [.ref 0, un], [], k_146 L xs) = Rn 100 81 (72, [.ref 0, un], [], k_148 L xs) := by
  have n146 := (G_146 L xs).N
  have s146_0 : mS (k_146 L xs) 0 = (8, 12) := (G_146 L xs).S 0 (by decide)
  have n147 := (G_147 L xs).N
  have s147_0 : mS (k_147 L xs) 0 = (8, 12) := (G_147 L xs).S 0 (by decide)
  have s147_67 : mS (k_147 L xs) 67 = (10, 96) := (G_147 L xs).S 67 (by decide)
  have n148 := (G_148 L xs).N
  have s148_0 : mS (k_148 L xs) 0 = (8, 12) := (G_148 L xs).S 0 (by decide)
  have s148_67 : mS (k_148 L xs) 67 = (10, 96) := (G_148 L xs).S 67 (by decide)
  have r148_6 : mR (k_148 L xs) 0 6 = 67 := ((G_148 L xs).R 0 6).trans (by decide +kernel)
  refine (q_81_64 99 0 un (k_146 L xs)).trans ?_
  try simp only [n146, s146_0, n147, s147_0, s147_67, n148, s148_0, s148_67, r148_6, E_147, E_148, ix_0, ix_1, ix_2, ix_3, ix_4, ix_5, ix_6, ix_7, ix_8, ix_9, ix_10, ix_14, ix_20, ix_24, ix_60, ix_96, ix_100, ix_120, ix_128, ix_2981, ix_3114, ix_4000]
  try rfl
theorem kt_60_7 : Rn 100 81 (72, [.ref 0, un], [], k_148 L xs) = Rn 100 81 (77, [.ref 0, un], [], k_149 L xs) := by
  have n148 := (G_148 L xs).N
  have s148_0 : mS (k_148 L xs) 0 = (8, 12) := (G_148 L xs).S 0 (by decide)
  have n149 := (G_149 L xs).N
  have s149_0 : mS (k_149 L xs) 0 = (8, 12) := (G_149 L xs).S 0 (by decide)
  refine (q_81_72 99 0 un (k_148 L xs)).trans ?_
  try simp only [n148, s148_0, n149, s149_0, E_149, ix_0, ix_1, ix_2, ix_3, ix_4, ix_5, ix_6, ix_7, ix_8, ix_9, ix_10, ix_14, ix_20, ix_24, ix_60, ix_96, ix_100, ix_120, ix_128, ix_2981, ix_3114, ix_4000]
  try rfl
theorem kt_60_8 : Rn 100 81 (77, [.ref 0, un], [], k_149 L xs) = Rn 100 81 (85, [.ref 0, un], [], k_151 L xs) := by
  have n149 := (G_149 L xs).N
  have s149_0 : mS (k_149 L xs) 0 = (8, 12) := (G_149 L xs).S 0 (by decide)
  have n150 := (G_150 L xs).N
  have s150_0 : mS (k_150 L xs) 0 = (8, 12) := (G_150 L xs).S 0 (by decide)
  have s150_68 : mS (k_150 L xs) 68 = (10, 60) := (G_150 L xs).S 68 (by decide)
  have n151 := (G_151 L xs).N
  have s151_0 : mS (k_151 L xs) 0 = (8, 12) := (G_151 L xs).S 0 (by decide)
  have s151_68 : mS (k_151 L xs) 68 = (10, 60) := (G_151 L xs).S 68 (by decide)
  have r151_8 : mR (k_151 L xs) 0 8 = 68 := ((G_151 L xs).R 0 8).trans (by decide +kernel)
  refine (q_81_77 99 0 un (k_149 L xs)).trans ?_
  try simp only [n149, s149_0, n150, s150_0, s150_68, n151, s151_0, s151_68, r151_8, E_150, E_151, ix_0, ix_1, ix_2, ix_3, ix_4, ix_5, ix_6, ix_7, ix_8, ix_9, ix_10, ix_14, ix_20, ix_24, ix_60, ix_96, ix_100, ix_120, ix_128, ix_2981, ix_3114, ix_4000]
  try rfl
theorem kt_60_9 : Rn 100 81 (85, [.ref 0, un], [], k_151 L xs) = Rn 100 81 (90, [.ref 0, un], [], k_152 L xs) := by
  have n151 := (G_151 L xs).N
  have s151_0 : mS (k_151 L xs) 0 = (8, 12) := (G_151 L xs).S 0 (by decide)
  have n152 := (G_152 L xs).N
  have s152_0 : mS (k_152 L xs) 0 = (8, 12) := (G_152 L xs).S 0 (by decide)
  refine (q_81_85 99 0 un (k_151 L xs)).trans ?_
  try simp only [n151, s151_0, n152, s152_0, E_152, ix_0, ix_1, ix_2, ix_3, ix_4, ix_5, ix_6, ix_7, ix_8, ix_9, ix_10, ix_14, ix_20, ix_24, ix_60, ix_96, ix_100, ix_120, ix_128, ix_2981, ix_3114, ix_4000]
  try rfl
theorem kt_60_10 : Rn 100 81 (90, [.ref 0, un], [], k_152 L xs) = Rn 100 81 (98, [.ref 0, un], [], k_154 L xs) := by
  have n152 := (G_152 L xs).N
  have s152_0 : mS (k_152 L xs) 0 = (8, 12) := (G_152 L xs).S 0 (by decide)
  have n153 := (G_153 L xs).N
  have s153_0 : mS (k_153 L xs) 0 = (8, 12) := (G_153 L xs).S 0 (by decide)
  have s153_69 : mS (k_153 L xs) 69 = (13, 4) := (G_153 L xs).S 69 (by decide)
  have n154 := (G_154 L xs).N
  have s154_0 : mS (k_154 L xs) 0 = (8, 12) := (G_154 L xs).S 0 (by decide)
  have s154_69 : mS (k_154 L xs) 69 = (13, 4) := (G_154 L xs).S 69 (by decide)
  have r154_10 : mR (k_154 L xs) 0 10 = 69 := ((G_154 L xs).R 0 10).trans (by decide +kernel)
  refine (q_81_90 99 0 un (k_152 L xs)).trans ?_
  try simp only [n152, s152_0, n153, s153_0, s153_69, n154, s154_0, s154_69, r154_10, E_153, E_154, ix_0, ix_1, ix_2, ix_3, ix_4, ix_5, ix_6, ix_7, ix_8, ix_9, ix_10, ix_14, ix_20, ix_24, ix_60, ix_96, ix_100, ix_120, ix_128, ix_2981, ix_3114, ix_4000]
  try rfl
theorem kt_60_11 : Rn 100 81 (98, [.ref 0, un], [], k_154 L xs) = Rn 100 81 (100, [.ref 0, .int 0], [], k_154 L xs) := by
  have n154 := (G_154 L xs).N
  have s154_0 : mS (k_154 L xs) 0 = (8, 12) := (G_154 L xs).S 0 (by decide)
  refine (q_81_98 99 0 un (k_154 L xs)).trans ?_
  try simp only [n154, s154_0, ix_0, ix_1, ix_2, ix_3, ix_4, ix_5, ix_6, ix_7, ix_8, ix_9, ix_10, ix_14, ix_20, ix_24, ix_60, ix_96, ix_100, ix_120, ix_128, ix_2981, ix_3114, ix_4000]
  try rfl
theorem kt_60_12 : Rn 100 81 (100, [.ref 0, .int 0], [], k_154 L xs) = Rn 100 81 (100, [.ref 0, .int 1], [], k_159 L xs) := by
  have n154 := (G_154 L xs).N
  have s154_0 : mS (k_154 L xs) 0 = (8, 12) := (G_154 L xs).S 0 (by decide)
  have s154_69 : mS (k_154 L xs) 69 = (13, 4) := (G_154 L xs).S 69 (by decide)
  have r154_10 : mR (k_154 L xs) 0 10 = 69 := ((G_154 L xs).R 0 10).trans (by decide +kernel)
  have n155 := (G_155 L xs).N
  have s155_0 : mS (k_155 L xs) 0 = (8, 12) := (G_155 L xs).S 0 (by decide)
  have s155_69 : mS (k_155 L xs) 69 = (13, 4) := (G_155 L xs).S 69 (by decide)
  have s155_70 : mS (k_155 L xs) 70 = (5, 3) := (G_155 L xs).S 70 (by decide)
  have r155_10 : mR (k_155 L xs) 0 10 = 69 := ((G_155 L xs).R 0 10).trans (by decide +kernel)
  have n158 := (G_158 L xs).N
  have s158_0 : mS (k_158 L xs) 0 = (8, 12) := (G_158 L xs).S 0 (by decide)
  have s158_69 : mS (k_158 L xs) 69 = (13, 4) := (G_158 L xs).S 69 (by decide)
  have s158_70 : mS (k_158 L xs) 70 = (5, 3) := (G_158 L xs).S 70 (by decide)
  have r158_10 : mR (k_158 L xs) 0 10 = 69 := ((G_158 L xs).R 0 10).trans (by decide +kernel)
  have n159 := (G_159 L xs).N
  have s159_0 : mS (k_159 L xs) 0 = (8, 12) := (G_159 L xs).S 0 (by decide)
  have s159_69 : mS (k_159 L xs) 69 = (13, 4) := (G_159 L xs).S 69 (by decide)
  have s159_70 : mS (k_159 L xs) 70 = (5, 3) := (G_159 L xs).S 70 (by decide)
  have r159_10 : mR (k_159 L xs) 0 10 = 69 := ((G_159 L xs).R 0 10).trans (by decide +kernel)
  refine (q_81_100 99 0 (0) (k_154 L xs)).trans ?_
  try simp only [n154, s154_0, s154_69, r154_10, n155, s155_0, s155_69, s155_70, r155_10, n158, s158_0, s158_69, s158_70, r158_10, n159, s159_0, s159_69, s159_70, r159_10, E_155, E_159, kc_41, Option.bind_some, ix_0, ix_1, ix_2, ix_3, ix_4, ix_5, ix_6, ix_7, ix_8, ix_9, ix_10, ix_14, ix_20, ix_24, ix_60, ix_96, ix_100, ix_120, ix_128, ix_2981, ix_3114, ix_4000]
  try rfl
theorem kt_60_13 : Rn 100 81 (100, [.ref 0, .int 1], [], k_159 L xs) = Rn 100 81 (100, [.ref 0, .int 2], [], k_164 L xs) := by
  have n159 := (G_159 L xs).N
  have s159_0 : mS (k_159 L xs) 0 = (8, 12) := (G_159 L xs).S 0 (by decide)
  have s159_69 : mS (k_159 L xs) 69 = (13, 4) := (G_159 L xs).S 69 (by decide)
  have r159_10 : mR (k_159 L xs) 0 10 = 69 := ((G_159 L xs).R 0 10).trans (by decide +kernel)
  have n160 := (G_160 L xs).N
  have s160_0 : mS (k_160 L xs) 0 = (8, 12) := (G_160 L xs).S 0 (by decide)
  have s160_69 : mS (k_160 L xs) 69 = (13, 4) := (G_160 L xs).S 69 (by decide)
  have s160_72 : mS (k_160 L xs) 72 = (5, 3) := (G_160 L xs).S 72 (by decide)
  have r160_10 : mR (k_160 L xs) 0 10 = 69 := ((G_160 L xs).R 0 10).trans (by decide +kernel)
  have n163 := (G_163 L xs).N
  have s163_0 : mS (k_163 L xs) 0 = (8, 12) := (G_163 L xs).S 0 (by decide)
  have s163_69 : mS (k_163 L xs) 69 = (13, 4) := (G_163 L xs).S 69 (by decide)
  have s163_72 : mS (k_163 L xs) 72 = (5, 3) := (G_163 L xs).S 72 (by decide)
  have r163_10 : mR (k_163 L xs) 0 10 = 69 := ((G_163 L xs).R 0 10).trans (by decide +kernel)
  have n164 := (G_164 L xs).N
  have s164_0 : mS (k_164 L xs) 0 = (8, 12) := (G_164 L xs).S 0 (by decide)
  have s164_69 : mS (k_164 L xs) 69 = (13, 4) := (G_164 L xs).S 69 (by decide)
  have s164_72 : mS (k_164 L xs) 72 = (5, 3) := (G_164 L xs).S 72 (by decide)
  have r164_10 : mR (k_164 L xs) 0 10 = 69 := ((G_164 L xs).R 0 10).trans (by decide +kernel)
  refine (q_81_100 99 0 (1) (k_159 L xs)).trans ?_
  try simp only [n159, s159_0, s159_69, r159_10, n160, s160_0, s160_69, s160_72, r160_10, n163, s163_0, s163_69, s163_72, r163_10, n164, s164_0, s164_69, s164_72, r164_10, E_160, E_164, kc_42, Option.bind_some, ix_0, ix_1, ix_2, ix_3, ix_4, ix_5, ix_6, ix_7, ix_8, ix_9, ix_10, ix_14, ix_20, ix_24, ix_60, ix_96, ix_100, ix_120, ix_128, ix_2981, ix_3114, ix_4000]
  try rfl
theorem kt_60_14 : Rn 100 81 (100, [.ref 0, .int 2], [], k_164 L xs) = Rn 100 81 (100, [.ref 0, .int 3], [], k_169 L xs) := by
  have n164 := (G_164 L xs).N
  have s164_0 : mS (k_164 L xs) 0 = (8, 12) := (G_164 L xs).S 0 (by decide)
  have s164_69 : mS (k_164 L xs) 69 = (13, 4) := (G_164 L xs).S 69 (by decide)
  have r164_10 : mR (k_164 L xs) 0 10 = 69 := ((G_164 L xs).R 0 10).trans (by decide +kernel)
  have n165 := (G_165 L xs).N
  have s165_0 : mS (k_165 L xs) 0 = (8, 12) := (G_165 L xs).S 0 (by decide)
  have s165_69 : mS (k_165 L xs) 69 = (13, 4) := (G_165 L xs).S 69 (by decide)
  have s165_74 : mS (k_165 L xs) 74 = (5, 3) := (G_165 L xs).S 74 (by decide)
  have r165_10 : mR (k_165 L xs) 0 10 = 69 := ((G_165 L xs).R 0 10).trans (by decide +kernel)
  have n168 := (G_168 L xs).N
  have s168_0 : mS (k_168 L xs) 0 = (8, 12) := (G_168 L xs).S 0 (by decide)
  have s168_69 : mS (k_168 L xs) 69 = (13, 4) := (G_168 L xs).S 69 (by decide)
  have s168_74 : mS (k_168 L xs) 74 = (5, 3) := (G_168 L xs).S 74 (by decide)
  have r168_10 : mR (k_168 L xs) 0 10 = 69 := ((G_168 L xs).R 0 10).trans (by decide +kernel)
  have n169 := (G_169 L xs).N
  have s169_0 : mS (k_169 L xs) 0 = (8, 12) := (G_169 L xs).S 0 (by decide)
  have s169_69 : mS (k_169 L xs) 69 = (13, 4) := (G_169 L xs).S 69 (by decide)
  have s169_74 : mS (k_169 L xs) 74 = (5, 3) := (G_169 L xs).S 74 (by decide)
  have r169_10 : mR (k_169 L xs) 0 10 = 69 := ((G_169 L xs).R 0 10).trans (by decide +kernel)
  refine (q_81_100 99 0 (2) (k_164 L xs)).trans ?_
  try simp only [n164, s164_0, s164_69, r164_10, n165, s165_0, s165_69, s165_74, r165_10, n168, s168_0, s168_69, s168_74, r168_10, n169, s169_0, s169_69, s169_74, r169_10, E_165, E_169, kc_43, Option.bind_some, ix_0, ix_1, ix_2, ix_3, ix_4, ix_5, ix_6, ix_7, ix_8, ix_9, ix_10, ix_14, ix_20, ix_24, ix_60, ix_96, ix_100, ix_120, ix_128, ix_2981, ix_3114, ix_4000]
  try rfl
theorem kt_60_15 : Rn 100 81 (100, [.ref 0, .int 3], [], k_169 L xs) = Rn 100 81 (100, [.ref 0, .int 4], [], k_174 L xs) := by
  have n169 := (G_169 L xs).N
  have s169_0 : mS (k_169 L xs) 0 = (8, 12) := (G_169 L xs).S 0 (by decide)
  have s169_69 : mS (k_169 L xs) 69 = (13, 4) := (G_169 L xs).S 69 (by decide)
  have r169_10 : mR (k_169 L xs) 0 10 = 69 := ((G_169 L xs).R 0 10).trans (by decide +kernel)
  have n170 := (G_170 L xs).N
  have s170_0 : mS (k_170 L xs) 0 = (8, 12) := (G_170 L xs).S 0 (by decide)
  have s170_69 : mS (k_170 L xs) 69 = (13, 4) := (G_170 L xs).S 69 (by decide)
  have s170_76 : mS (k_170 L xs) 76 = (5, 3) := (G_170 L xs).S 76 (by decide)
  have r170_10 : mR (k_170 L xs) 0 10 = 69 := ((G_170 L xs).R 0 10).trans (by decide +kernel)
  have n173 := (G_173 L xs).N
  have s173_0 : mS (k_173 L xs) 0 = (8, 12) := (G_173 L xs).S 0 (by decide)
  have s173_69 : mS (k_173 L xs) 69 = (13, 4) := (G_173 L xs).S 69 (by decide)
  have s173_76 : mS (k_173 L xs) 76 = (5, 3) := (G_173 L xs).S 76 (by decide)
  have r173_10 : mR (k_173 L xs) 0 10 = 69 := ((G_173 L xs).R 0 10).trans (by decide +kernel)
  have n174 := (G_174 L xs).N
  have s174_0 : mS (k_174 L xs) 0 = (8, 12) := (G_174 L xs).S 0 (by decide)
  have s174_69 : mS (k_174 L xs) 69 = (13, 4) := (G_174 L xs).S 69 (by decide)
  have s174_76 : mS (k_174 L xs) 76 = (5, 3) := (G_174 L xs).S 76 (by decide)
  have r174_10 : mR (k_174 L xs) 0 10 = 69 := ((G_174 L xs).R 0 10).trans (by decide +kernel)
  refine (q_81_100 99 0 (3) (k_169 L xs)).trans ?_
  try simp only [n169, s169_0, s169_69, r169_10, n170, s170_0, s170_69, s170_76, r170_10, n173, s173_0, s173_69, s173_76, r173_10, n174, s174_0, s174_69, s174_76, r174_10, E_170, E_174, kc_44, Option.bind_some, ix_0, ix_1, ix_2, ix_3, ix_4, ix_5, ix_6, ix_7, ix_8, ix_9, ix_10, ix_14, ix_20, ix_24, ix_60, ix_96, ix_100, ix_120, ix_128, ix_2981, ix_3114, ix_4000]
  try rfl
theorem kt_60_16 : Rn 100 81 (100, [.ref 0, .int 4], [], k_174 L xs) = Rn 100 81 (132, [.ref 0, .int 4], [], k_176 L xs) := by
  have n174 := (G_174 L xs).N
  have s174_0 : mS (k_174 L xs) 0 = (8, 12) := (G_174 L xs).S 0 (by decide)
  have n175 := (G_175 L xs).N
  have s175_0 : mS (k_175 L xs) 0 = (8, 12) := (G_175 L xs).S 0 (by decide)
  have s175_78 : mS (k_175 L xs) 78 = (14, 5) := (G_175 L xs).S 78 (by decide)
  have n176 := (G_176 L xs).N
  have s176_0 : mS (k_176 L xs) 0 = (8, 12) := (G_176 L xs).S 0 (by decide)
  have s176_78 : mS (k_176 L xs) 78 = (14, 5) := (G_176 L xs).S 78 (by decide)
  have r176_11 : mR (k_176 L xs) 0 11 = 78 := ((G_176 L xs).R 0 11).trans (by decide +kernel)
  refine (q_81_100 99 0 (4) (k_174 L xs)).trans ?_
  try simp only [n174, s174_0, n175, s175_0, s175_78, n176, s176_0, s176_78, r176_11, E_175, E_176, ix_0, ix_1, ix_2, ix_3, ix_4, ix_5, ix_6, ix_7, ix_8, ix_9, ix_10, ix_14, ix_20, ix_24, ix_60, ix_96, ix_100, ix_120, ix_128, ix_2981, ix_3114, ix_4000]
  try rfl
theorem kt_60_17 : Rn 100 81 (132, [.ref 0, .int 4], [], k_176 L xs) = Rn 100 81 (134, [.ref 0, .int 0], [], k_176 L xs) := by
  have n176 := (G_176 L xs).N
  have s176_0 : mS (k_176 L xs) 0 = (8, 12) := (G_176 L xs).S 0 (by decide)
  refine (q_81_132 99 0 (4) (k_176 L xs)).trans ?_
  try simp only [n176, s176_0, ix_0, ix_1, ix_2, ix_3, ix_4, ix_5, ix_6, ix_7, ix_8, ix_9, ix_10, ix_14, ix_20, ix_24, ix_60, ix_96, ix_100, ix_120, ix_128, ix_2981, ix_3114, ix_4000]
  try rfl
theorem kt_60_18 : Rn 100 81 (134, [.ref 0, .int 0], [], k_176 L xs) = Rn 100 81 (134, [.ref 0, .int 1], [], k_186 L xs) := by
  have n176 := (G_176 L xs).N
  have s176_0 : mS (k_176 L xs) 0 = (8, 12) := (G_176 L xs).S 0 (by decide)
  have s176_78 : mS (k_176 L xs) 78 = (14, 5) := (G_176 L xs).S 78 (by decide)
  have r176_11 : mR (k_176 L xs) 0 11 = 78 := ((G_176 L xs).R 0 11).trans (by decide +kernel)
  have n177 := (G_177 L xs).N
  have s177_0 : mS (k_177 L xs) 0 = (8, 12) := (G_177 L xs).S 0 (by decide)
  have s177_78 : mS (k_177 L xs) 78 = (14, 5) := (G_177 L xs).S 78 (by decide)
  have s177_79 : mS (k_177 L xs) 79 = (6, 4) := (G_177 L xs).S 79 (by decide)
  have r177_11 : mR (k_177 L xs) 0 11 = 78 := ((G_177 L xs).R 0 11).trans (by decide +kernel)
  have n185 := (G_185 L xs).N
  have s185_0 : mS (k_185 L xs) 0 = (8, 12) := (G_185 L xs).S 0 (by decide)
  have s185_78 : mS (k_185 L xs) 78 = (14, 5) := (G_185 L xs).S 78 (by decide)
  have s185_79 : mS (k_185 L xs) 79 = (6, 4) := (G_185 L xs).S 79 (by decide)
  have r185_11 : mR (k_185 L xs) 0 11 = 78 := ((G_185 L xs).R 0 11).trans (by decide +kernel)
  have n186 := (G_186 L xs).N
  have s186_0 : mS (k_186 L xs) 0 = (8, 12) := (G_186 L xs).S 0 (by decide)
  have s186_78 : mS (k_186 L xs) 78 = (14, 5) := (G_186 L xs).S 78 (by decide)
  have s186_79 : mS (k_186 L xs) 79 = (6, 4) := (G_186 L xs).S 79 (by decide)
  have r186_11 : mR (k_186 L xs) 0 11 = 78 := ((G_186 L xs).R 0 11).trans (by decide +kernel)
  refine (q_81_134 99 0 (0) (k_176 L xs)).trans ?_
  try simp only [n176, s176_0, s176_78, r176_11, n177, s177_0, s177_78, s177_79, r177_11, n185, s185_0, s185_78, s185_79, r185_11, n186, s186_0, s186_78, s186_79, r186_11, E_177, E_186, kc_47, Option.bind_some, ix_0, ix_1, ix_2, ix_3, ix_4, ix_5, ix_6, ix_7, ix_8, ix_9, ix_10, ix_14, ix_20, ix_24, ix_60, ix_96, ix_100, ix_120, ix_128, ix_2981, ix_3114, ix_4000]
  try rfl
theorem kt_60_19 : Rn 100 81 (134, [.ref 0, .int 1], [], k_186 L xs) = Rn 100 81 (134, [.ref 0, .int 2], [], k_196 L xs) := by
  have n186 := (G_186 L xs).N
  have s186_0 : mS (k_186 L xs) 0 = (8, 12) := (G_186 L xs).S 0 (by decide)
  have s186_78 : mS (k_186 L xs) 78 = (14, 5) := (G_186 L xs).S 78 (by decide)
  have r186_11 : mR (k_186 L xs) 0 11 = 78 := ((G_186 L xs).R 0 11).trans (by decide +kernel)
  have n187 := (G_187 L xs).N
  have s187_0 : mS (k_187 L xs) 0 = (8, 12) := (G_187 L xs).S 0 (by decide)
  have s187_78 : mS (k_187 L xs) 78 = (14, 5) := (G_187 L xs).S 78 (by decide)
  have s187_83 : mS (k_187 L xs) 83 = (6, 4) := (G_187 L xs).S 83 (by decide)
  have r187_11 : mR (k_187 L xs) 0 11 = 78 := ((G_187 L xs).R 0 11).trans (by decide +kernel)
  have n195 := (G_195 L xs).N
  have s195_0 : mS (k_195 L xs) 0 = (8, 12) := (G_195 L xs).S 0 (by decide)
  have s195_78 : mS (k_195 L xs) 78 = (14, 5) := (G_195 L xs).S 78 (by decide)
  have s195_83 : mS (k_195 L xs) 83 = (6, 4) := (G_195 L xs).S 83 (by decide)
  have r195_11 : mR (k_195 L xs) 0 11 = 78 := ((G_195 L xs).R 0 11).trans (by decide +kernel)
  have n196 := (G_196 L xs).N
  have s196_0 : mS (k_196 L xs) 0 = (8, 12) := (G_196 L xs).S 0 (by decide)
  have s196_78 : mS (k_196 L xs) 78 = (14, 5) := (G_196 L xs).S 78 (by decide)
  have s196_83 : mS (k_196 L xs) 83 = (6, 4) := (G_196 L xs).S 83 (by decide)
  have r196_11 : mR (k_196 L xs) 0 11 = 78 := ((G_196 L xs).R 0 11).trans (by decide +kernel)
  refine (q_81_134 99 0 (1) (k_186 L xs)).trans ?_
  try simp only [n186, s186_0, s186_78, r186_11, n187, s187_0, s187_78, s187_83, r187_11, n195, s195_0, s195_78, s195_83, r195_11, n196, s196_0, s196_78, s196_83, r196_11, E_187, E_196, kc_50, Option.bind_some, ix_0, ix_1, ix_2, ix_3, ix_4, ix_5, ix_6, ix_7, ix_8, ix_9, ix_10, ix_14, ix_20, ix_24, ix_60, ix_96, ix_100, ix_120, ix_128, ix_2981, ix_3114, ix_4000]
  try rfl
theorem kt_60_20 : Rn 100 81 (134, [.ref 0, .int 2], [], k_196 L xs) = Rn 100 81 (134, [.ref 0, .int 3], [], k_206 L xs) := by
  have n196 := (G_196 L xs).N
  have s196_0 : mS (k_196 L xs) 0 = (8, 12) := (G_196 L xs).S 0 (by decide)
  have s196_78 : mS (k_196 L xs) 78 = (14, 5) := (G_196 L xs).S 78 (by decide)
  have r196_11 : mR (k_196 L xs) 0 11 = 78 := ((G_196 L xs).R 0 11).trans (by decide +kernel)
  have n197 := (G_197 L xs).N
  have s197_0 : mS (k_197 L xs) 0 = (8, 12) := (G_197 L xs).S 0 (by decide)
  have s197_78 : mS (k_197 L xs) 78 = (14, 5) := (G_197 L xs).S 78 (by decide)
  have s197_87 : mS (k_197 L xs) 87 = (6, 4) := (G_197 L xs).S 87 (by decide)
  have r197_11 : mR (k_197 L xs) 0 11 = 78 := ((G_197 L xs).R 0 11).trans (by decide +kernel)
  have n205 := (G_205 L xs).N
  have s205_0 : mS (k_205 L xs) 0 = (8, 12) := (G_205 L xs).S 0 (by decide)
  have s205_78 : mS (k_205 L xs) 78 = (14, 5) := (G_205 L xs).S 78 (by decide)
  have s205_87 : mS (k_205 L xs) 87 = (6, 4) := (G_205 L xs).S 87 (by decide)
  have r205_11 : mR (k_205 L xs) 0 11 = 78 := ((G_205 L xs).R 0 11).trans (by decide +kernel)
  have n206 := (G_206 L xs).N
  have s206_0 : mS (k_206 L xs) 0 = (8, 12) := (G_206 L xs).S 0 (by decide)
  have s206_78 : mS (k_206 L xs) 78 = (14, 5) := (G_206 L xs).S 78 (by decide)
  have s206_87 : mS (k_206 L xs) 87 = (6, 4) := (G_206 L xs).S 87 (by decide)
  have r206_11 : mR (k_206 L xs) 0 11 = 78 := ((G_206 L xs).R 0 11).trans (by decide +kernel)
  refine (q_81_134 99 0 (2) (k_196 L xs)).trans ?_
  try simp only [n196, s196_0, s196_78, r196_11, n197, s197_0, s197_78, s197_87, r197_11, n205, s205_0, s205_78, s205_87, r205_11, n206, s206_0, s206_78, s206_87, r206_11, E_197, E_206, kc_53, Option.bind_some, ix_0, ix_1, ix_2, ix_3, ix_4, ix_5, ix_6, ix_7, ix_8, ix_9, ix_10, ix_14, ix_20, ix_24, ix_60, ix_96, ix_100, ix_120, ix_128, ix_2981, ix_3114, ix_4000]
  try rfl
theorem kt_60_21 : Rn 100 81 (134, [.ref 0, .int 3], [], k_206 L xs) = Rn 100 81 (134, [.ref 0, .int 4], [], k_216 L xs) := by
  have n206 := (G_206 L xs).N
  have s206_0 : mS (k_206 L xs) 0 = (8, 12) := (G_206 L xs).S 0 (by decide)
  have s206_78 : mS (k_206 L xs) 78 = (14, 5) := (G_206 L xs).S 78 (by decide)
  have r206_11 : mR (k_206 L xs) 0 11 = 78 := ((G_206 L xs).R 0 11).trans (by decide +kernel)
  have n207 := (G_207 L xs).N
  have s207_0 : mS (k_207 L xs) 0 = (8, 12) := (G_207 L xs).S 0 (by decide)
  have s207_78 : mS (k_207 L xs) 78 = (14, 5) := (G_207 L xs).S 78 (by decide)
  have s207_91 : mS (k_207 L xs) 91 = (6, 4) := (G_207 L xs).S 91 (by decide)
  have r207_11 : mR (k_207 L xs) 0 11 = 78 := ((G_207 L xs).R 0 11).trans (by decide +kernel)
  have n215 := (G_215 L xs).N
  have s215_0 : mS (k_215 L xs) 0 = (8, 12) := (G_215 L xs).S 0 (by decide)
  have s215_78 : mS (k_215 L xs) 78 = (14, 5) := (G_215 L xs).S 78 (by decide)
  have s215_91 : mS (k_215 L xs) 91 = (6, 4) := (G_215 L xs).S 91 (by decide)
  have r215_11 : mR (k_215 L xs) 0 11 = 78 := ((G_215 L xs).R 0 11).trans (by decide +kernel)
  have n216 := (G_216 L xs).N
  have s216_0 : mS (k_216 L xs) 0 = (8, 12) := (G_216 L xs).S 0 (by decide)
  have s216_78 : mS (k_216 L xs) 78 = (14, 5) := (G_216 L xs).S 78 (by decide)
  have s216_91 : mS (k_216 L xs) 91 = (6, 4) := (G_216 L xs).S 91 (by decide)
  have r216_11 : mR (k_216 L xs) 0 11 = 78 := ((G_216 L xs).R 0 11).trans (by decide +kernel)
  refine (q_81_134 99 0 (3) (k_206 L xs)).trans ?_
  try simp only [n206, s206_0, s206_78, r206_11, n207, s207_0, s207_78, s207_91, r207_11, n215, s215_0, s215_78, s215_91, r215_11, n216, s216_0, s216_78, s216_91, r216_11, E_207, E_216, kc_56, Option.bind_some, ix_0, ix_1, ix_2, ix_3, ix_4, ix_5, ix_6, ix_7, ix_8, ix_9, ix_10, ix_14, ix_20, ix_24, ix_60, ix_96, ix_100, ix_120, ix_128, ix_2981, ix_3114, ix_4000]
  try rfl
theorem kt_60_22 : Rn 100 81 (134, [.ref 0, .int 4], [], k_216 L xs) = Rn 100 81 (134, [.ref 0, .int 5], [], k_226 L xs) := by
  have n216 := (G_216 L xs).N
  have s216_0 : mS (k_216 L xs) 0 = (8, 12) := (G_216 L xs).S 0 (by decide)
  have s216_78 : mS (k_216 L xs) 78 = (14, 5) := (G_216 L xs).S 78 (by decide)
  have r216_11 : mR (k_216 L xs) 0 11 = 78 := ((G_216 L xs).R 0 11).trans (by decide +kernel)
  have n217 := (G_217 L xs).N
  have s217_0 : mS (k_217 L xs) 0 = (8, 12) := (G_217 L xs).S 0 (by decide)
  have s217_78 : mS (k_217 L xs) 78 = (14, 5) := (G_217 L xs).S 78 (by decide)
  have s217_95 : mS (k_217 L xs) 95 = (6, 4) := (G_217 L xs).S 95 (by decide)
  have r217_11 : mR (k_217 L xs) 0 11 = 78 := ((G_217 L xs).R 0 11).trans (by decide +kernel)
  have n225 := (G_225 L xs).N
  have s225_0 : mS (k_225 L xs) 0 = (8, 12) := (G_225 L xs).S 0 (by decide)
  have s225_78 : mS (k_225 L xs) 78 = (14, 5) := (G_225 L xs).S 78 (by decide)
  have s225_95 : mS (k_225 L xs) 95 = (6, 4) := (G_225 L xs).S 95 (by decide)
  have r225_11 : mR (k_225 L xs) 0 11 = 78 := ((G_225 L xs).R 0 11).trans (by decide +kernel)
  have n226 := (G_226 L xs).N
  have s226_0 : mS (k_226 L xs) 0 = (8, 12) := (G_226 L xs).S 0 (by decide)
  have s226_78 : mS (k_226 L xs) 78 = (14, 5) := (G_226 L xs).S 78 (by decide)
  have s226_95 : mS (k_226 L xs) 95 = (6, 4) := (G_226 L xs).S 95 (by decide)
  have r226_11 : mR (k_226 L xs) 0 11 = 78 := ((G_226 L xs).R 0 11).trans (by decide +kernel)
  refine (q_81_134 99 0 (4) (k_216 L xs)).trans ?_
  try simp only [n216, s216_0, s216_78, r216_11, n217, s217_0, s217_78, s217_95, r217_11, n225, s225_0, s225_78, s225_95, r225_11, n226, s226_0, s226_78, s226_95, r226_11, E_217, E_226, kc_59, Option.bind_some, ix_0, ix_1, ix_2, ix_3, ix_4, ix_5, ix_6, ix_7, ix_8, ix_9, ix_10, ix_14, ix_20, ix_24, ix_60, ix_96, ix_100, ix_120, ix_128, ix_2981, ix_3114, ix_4000]
  try rfl
theorem kt_60_23 : Rn 100 81 (134, [.ref 0, .int 5], [], k_226 L xs) = some (none, k_226 L xs) := by
  have n226 := (G_226 L xs).N
  have s226_0 : mS (k_226 L xs) 0 = (8, 12) := (G_226 L xs).S 0 (by decide)
  refine (q_81_134 99 0 (5) (k_226 L xs)).trans ?_
  try simp only [n226, s226_0, ix_0, ix_1, ix_2, ix_3, ix_4, ix_5, ix_6, ix_7, ix_8, ix_9, ix_10, ix_14, ix_20, ix_24, ix_60, ix_96, ix_100, ix_120, ix_128, ix_2981, ix_3114, ix_4000]
  try rfl
theorem kc_60 : cV 100 81 [.ref 0] (k_1 L xs) = some (k_226 L xs) := i_81 ((kt_60_0 L xs).trans ((kt_60_1 L xs).trans ((kt_60_2 L xs).trans ((kt_60_3 L xs).trans ((kt_60_4 L xs).trans ((kt_60_5 L xs).trans ((kt_60_6 L xs).trans ((kt_60_7 L xs).trans ((kt_60_8 L xs).trans ((kt_60_9 L xs).trans ((kt_60_10 L xs).trans ((kt_60_11 L xs).trans ((kt_60_12 L xs).trans ((kt_60_13 L xs).trans ((kt_60_14 L xs).trans ((kt_60_15 L xs).trans ((kt_60_16 L xs).trans ((kt_60_17 L xs).trans ((kt_60_18 L xs).trans ((kt_60_19 L xs).trans ((kt_60_20 L xs).trans ((kt_60_21 L xs).trans ((kt_60_22 L xs).trans (kt_60_23 L xs))))))))))))))))))))))))
def k_227 (L : Nat) (xs : Nat → Int32) : aMem := newC (k_226 L xs) 9 38
theorem G_227 : Mk L xs 100 4296 zr_226 zf_224 (k_227 L xs) := mk_new (G_226 L xs) (by decide +kernel) (by decide +kernel) (by decide +kernel)
theorem E_227 : newC (k_226 L xs) 9 38 = k_227 L xs := rfl
def k_228 (L : Nat) (xs : Nat → Int32) : aMem := newC (k_227 L xs) 10 3114
theorem G_228 : Mk L xs 101 7410 zr_226 zf_224 (k_228 L xs) := mk_new (G_227 L xs) (by decide +kernel) (by decide +kernel) (by decide +kernel)
theorem E_228 : newC (k_227 L xs) 10 3114 = k_228 L xs := rfl
def k_229 (L : Nat) (xs : Nat → Int32) : aMem := setR (k_228 L xs) 99 0 100
def zr_229 : List (Nat × Nat × Nat) := (99, 0, 100) :: zr_226
theorem G_229 : Mk L xs 101 7410 zr_229 zf_224 (k_229 L xs) := mk_setR (G_228 L xs)
theorem E_229 : setR (k_228 L xs) 99 0 100 = k_229 L xs := rfl
def k_230 (L : Nat) (xs : Nat → Int32) : aMem := newC (k_229 L xs) 10 3114
theorem G_230 : Mk L xs 102 10524 zr_229 zf_224 (k_230 L xs) := mk_new (G_229 L xs) (by decide +kernel) (by decide +kernel) (by decide +kernel)
theorem E_230 : newC (k_229 L xs) 10 3114 = k_230 L xs := rfl
def k_231 (L : Nat) (xs : Nat → Int32) : aMem := setR (k_230 L xs) 99 1 101
def zr_231 : List (Nat × Nat × Nat) := (99, 1, 101) :: zr_229
theorem G_231 : Mk L xs 102 10524 zr_231 zf_224 (k_231 L xs) := mk_setR (G_230 L xs)
theorem E_231 : setR (k_230 L xs) 99 1 101 = k_231 L xs := rfl
def k_232 (L : Nat) (xs : Nat → Int32) : aMem := newC (k_231 L xs) 10 3114
theorem G_232 : Mk L xs 103 13638 zr_231 zf_224 (k_232 L xs) := mk_new (G_231 L xs) (by decide +kernel) (by decide +kernel) (by decide +kernel)
theorem E_232 : newC (k_231 L xs) 10 3114 = k_232 L xs := rfl
def k_233 (L : Nat) (xs : Nat → Int32) : aMem := setR (k_232 L xs) 99 2 102
def zr_233 : List (Nat × Nat × Nat) := (99, 2, 102) :: zr_231
theorem G_233 : Mk L xs 103 13638 zr_233 zf_224 (k_233 L xs) := mk_setR (G_232 L xs)
theorem E_233 : setR (k_232 L xs) 99 2 102 = k_233 L xs := rfl
def k_234 (L : Nat) (xs : Nat → Int32) : aMem := newC (k_233 L xs) 10 4
theorem G_234 : Mk L xs 104 13642 zr_233 zf_224 (k_234 L xs) := mk_new (G_233 L xs) (by decide +kernel) (by decide +kernel) (by decide +kernel)
theorem E_234 : newC (k_233 L xs) 10 4 = k_234 L xs := rfl
def k_235 (L : Nat) (xs : Nat → Int32) : aMem := setR (k_234 L xs) 99 4 103
def zr_235 : List (Nat × Nat × Nat) := (99, 4, 103) :: zr_233
theorem G_235 : Mk L xs 104 13642 zr_235 zf_224 (k_235 L xs) := mk_setR (G_234 L xs)
theorem E_235 : setR (k_234 L xs) 99 4 103 = k_235 L xs := rfl
def k_236 (L : Nat) (xs : Nat → Int32) : aMem := newC (k_235 L xs) 10 4
theorem G_236 : Mk L xs 105 13646 zr_235 zf_224 (k_236 L xs) := mk_new (G_235 L xs) (by decide +kernel) (by decide +kernel) (by decide +kernel)
theorem E_236 : newC (k_235 L xs) 10 4 = k_236 L xs := rfl
def k_237 (L : Nat) (xs : Nat → Int32) : aMem := setR (k_236 L xs) 99 5 104
def zr_237 : List (Nat × Nat × Nat) := (99, 5, 104) :: zr_235
theorem G_237 : Mk L xs 105 13646 zr_237 zf_224 (k_237 L xs) := mk_setR (G_236 L xs)
theorem E_237 : setR (k_236 L xs) 99 5 104 = k_237 L xs := rfl
def k_238 (L : Nat) (xs : Nat → Int32) : aMem := newC (k_237 L xs) 10 96
theorem G_238 : Mk L xs 106 13742 zr_237 zf_224 (k_238 L xs) := mk_new (G_237 L xs) (by decide +kernel) (by decide +kernel) (by decide +kernel)
theorem E_238 : newC (k_237 L xs) 10 96 = k_238 L xs := rfl
def k_239 (L : Nat) (xs : Nat → Int32) : aMem := setR (k_238 L xs) 99 6 105
def zr_239 : List (Nat × Nat × Nat) := (99, 6, 105) :: zr_237
theorem G_239 : Mk L xs 106 13742 zr_239 zf_224 (k_239 L xs) := mk_setR (G_238 L xs)
theorem E_239 : setR (k_238 L xs) 99 6 105 = k_239 L xs := rfl
def k_240 (L : Nat) (xs : Nat → Int32) : aMem := newC (k_239 L xs) 10 5
theorem G_240 : Mk L xs 107 13747 zr_239 zf_224 (k_240 L xs) := mk_new (G_239 L xs) (by decide +kernel) (by decide +kernel) (by decide +kernel)
theorem E_240 : newC (k_239 L xs) 10 5 = k_240 L xs := rfl
def k_241 (L : Nat) (xs : Nat → Int32) : aMem := setR (k_240 L xs) 99 7 106
def zr_241 : List (Nat × Nat × Nat) := (99, 7, 106) :: zr_239
theorem G_241 : Mk L xs 107 13747 zr_241 zf_224 (k_241 L xs) := mk_setR (G_240 L xs)
theorem E_241 : setR (k_240 L xs) 99 7 106 = k_241 L xs := rfl
def k_242 (L : Nat) (xs : Nat → Int32) : aMem := newC (k_241 L xs) 10 5
theorem G_242 : Mk L xs 108 13752 zr_241 zf_224 (k_242 L xs) := mk_new (G_241 L xs) (by decide +kernel) (by decide +kernel) (by decide +kernel)
theorem E_242 : newC (k_241 L xs) 10 5 = k_242 L xs := rfl
def k_243 (L : Nat) (xs : Nat → Int32) : aMem := setR (k_242 L xs) 99 8 107
def zr_243 : List (Nat × Nat × Nat) := (99, 8, 107) :: zr_241
theorem G_243 : Mk L xs 108 13752 zr_243 zf_224 (k_243 L xs) := mk_setR (G_242 L xs)
theorem E_243 : setR (k_242 L xs) 99 8 107 = k_243 L xs := rfl
def k_244 (L : Nat) (xs : Nat → Int32) : aMem := newC (k_243 L xs) 10 5
theorem G_244 : Mk L xs 109 13757 zr_243 zf_224 (k_244 L xs) := mk_new (G_243 L xs) (by decide +kernel) (by decide +kernel) (by decide +kernel)
theorem E_244 : newC (k_243 L xs) 10 5 = k_244 L xs := rfl
def k_245 (L : Nat) (xs : Nat → Int32) : aMem := setR (k_244 L xs) 99 9 108
def zr_245 : List (Nat × Nat × Nat) := (99, 9, 108) :: zr_243
theorem G_245 : Mk L xs 109 13757 zr_245 zf_224 (k_245 L xs) := mk_setR (G_244 L xs)
theorem E_245 : setR (k_244 L xs) 99 9 108 = k_245 L xs := rfl
def k_246 (L : Nat) (xs : Nat → Int32) : aMem := newC (k_245 L xs) 10 5
theorem G_246 : Mk L xs 110 13762 zr_245 zf_224 (k_246 L xs) := mk_new (G_245 L xs) (by decide +kernel) (by decide +kernel) (by decide +kernel)
theorem E_246 : newC (k_245 L xs) 10 5 = k_246 L xs := rfl
def k_247 (L : Nat) (xs : Nat → Int32) : aMem := setR (k_246 L xs) 99 10 109
def zr_247 : List (Nat × Nat × Nat) := (99, 10, 109) :: zr_245
theorem G_247 : Mk L xs 110 13762 zr_247 zf_224 (k_247 L xs) := mk_setR (G_246 L xs)
theorem E_247 : setR (k_246 L xs) 99 10 109 = k_247 L xs := rfl
def k_248 (L : Nat) (xs : Nat → Int32) : aMem := newC (k_247 L xs) 10 120
theorem G_248 : Mk L xs 111 13882 zr_247 zf_224 (k_248 L xs) := mk_new (G_247 L xs) (by decide +kernel) (by decide +kernel) (by decide +kernel)
theorem E_248 : newC (k_247 L xs) 10 120 = k_248 L xs := rfl
def k_249 (L : Nat) (xs : Nat → Int32) : aMem := setR (k_248 L xs) 99 11 110
def zr_249 : List (Nat × Nat × Nat) := (99, 11, 110) :: zr_247
theorem G_249 : Mk L xs 111 13882 zr_249 zf_224 (k_249 L xs) := mk_setR (G_248 L xs)
theorem E_249 : setR (k_248 L xs) 99 11 110 = k_249 L xs := rfl
def k_250 (L : Nat) (xs : Nat → Int32) : aMem := newC (k_249 L xs) 10 10
theorem G_250 : Mk L xs 112 13892 zr_249 zf_224 (k_250 L xs) := mk_new (G_249 L xs) (by decide +kernel) (by decide +kernel) (by decide +kernel)
theorem E_250 : newC (k_249 L xs) 10 10 = k_250 L xs := rfl
def k_251 (L : Nat) (xs : Nat → Int32) : aMem := setR (k_250 L xs) 99 12 111
def zr_251 : List (Nat × Nat × Nat) := (99, 12, 111) :: zr_249
theorem G_251 : Mk L xs 112 13892 zr_251 zf_224 (k_251 L xs) := mk_setR (G_250 L xs)
theorem E_251 : setR (k_250 L xs) 99 12 111 = k_251 L xs := rfl
def k_252 (L : Nat) (xs : Nat → Int32) : aMem := newC (k_251 L xs) 10 10
theorem G_252 : Mk L xs 113 13902 zr_251 zf_224 (k_252 L xs) := mk_new (G_251 L xs) (by decide +kernel) (by decide +kernel) (by decide +kernel)
theorem E_252 : newC (k_251 L xs) 10 10 = k_252 L xs := rfl
def k_253 (L : Nat) (xs : Nat → Int32) : aMem := setR (k_252 L xs) 99 13 112
def zr_253 : List (Nat × Nat × Nat) := (99, 13, 112) :: zr_251
theorem G_253 : Mk L xs 113 13902 zr_253 zf_224 (k_253 L xs) := mk_setR (G_252 L xs)
theorem E_253 : setR (k_252 L xs) 99 13 112 = k_253 L xs := rfl
def k_254 (L : Nat) (xs : Nat → Int32) : aMem := newC (k_253 L xs) 10 10
theorem G_254 : Mk L xs 114 13912 zr_253 zf_224 (k_254 L xs) := mk_new (G_253 L xs) (by decide +kernel) (by decide +kernel) (by decide +kernel)
theorem E_254 : newC (k_253 L xs) 10 10 = k_254 L xs := rfl
def k_255 (L : Nat) (xs : Nat → Int32) : aMem := setR (k_254 L xs) 99 14 113
def zr_255 : List (Nat × Nat × Nat) := (99, 14, 113) :: zr_253
theorem G_255 : Mk L xs 114 13912 zr_255 zf_224 (k_255 L xs) := mk_setR (G_254 L xs)
theorem E_255 : setR (k_254 L xs) 99 14 113 = k_255 L xs := rfl
def k_256 (L : Nat) (xs : Nat → Int32) : aMem := newC (k_255 L xs) 10 10
theorem G_256 : Mk L xs 115 13922 zr_255 zf_224 (k_256 L xs) := mk_new (G_255 L xs) (by decide +kernel) (by decide +kernel) (by decide +kernel)
theorem E_256 : newC (k_255 L xs) 10 10 = k_256 L xs := rfl
def k_257 (L : Nat) (xs : Nat → Int32) : aMem := setR (k_256 L xs) 99 15 114
def zr_257 : List (Nat × Nat × Nat) := (99, 15, 114) :: zr_255
theorem G_257 : Mk L xs 115 13922 zr_257 zf_224 (k_257 L xs) := mk_setR (G_256 L xs)
theorem E_257 : setR (k_256 L xs) 99 15 114 = k_257 L xs := rfl
def k_258 (L : Nat) (xs : Nat → Int32) : aMem := newC (k_257 L xs) 10 10
theorem G_258 : Mk L xs 116 13932 zr_257 zf_224 (k_258 L xs) := mk_new (G_257 L xs) (by decide +kernel) (by decide +kernel) (by decide +kernel)
theorem E_258 : newC (k_257 L xs) 10 10 = k_258 L xs := rfl
def k_259 (L : Nat) (xs : Nat → Int32) : aMem := setR (k_258 L xs) 99 16 115
def zr_259 : List (Nat × Nat × Nat) := (99, 16, 115) :: zr_257
theorem G_259 : Mk L xs 116 13932 zr_259 zf_224 (k_259 L xs) := mk_setR (G_258 L xs)
theorem E_259 : setR (k_258 L xs) 99 16 115 = k_259 L xs := rfl
def k_260 (L : Nat) (xs : Nat → Int32) : aMem := newC (k_259 L xs) 11 4000
theorem G_260 : Mk L xs 117 17932 zr_259 zf_224 (k_260 L xs) := mk_new (G_259 L xs) (by decide +kernel) (by decide +kernel) (by decide +kernel)
theorem E_260 : newC (k_259 L xs) 11 4000 = k_260 L xs := rfl
def k_261 (L : Nat) (xs : Nat → Int32) : aMem := setR (k_260 L xs) 99 17 116
def zr_261 : List (Nat × Nat × Nat) := (99, 17, 116) :: zr_259
theorem G_261 : Mk L xs 117 17932 zr_261 zf_224 (k_261 L xs) := mk_setR (G_260 L xs)
theorem E_261 : setR (k_260 L xs) 99 17 116 = k_261 L xs := rfl
def k_262 (L : Nat) (xs : Nat → Int32) : aMem := newC (k_261 L xs) 10 96
theorem G_262 : Mk L xs 118 18028 zr_261 zf_224 (k_262 L xs) := mk_new (G_261 L xs) (by decide +kernel) (by decide +kernel) (by decide +kernel)
theorem E_262 : newC (k_261 L xs) 10 96 = k_262 L xs := rfl
def k_263 (L : Nat) (xs : Nat → Int32) : aMem := setR (k_262 L xs) 99 19 117
def zr_263 : List (Nat × Nat × Nat) := (99, 19, 117) :: zr_261
theorem G_263 : Mk L xs 118 18028 zr_263 zf_224 (k_263 L xs) := mk_setR (G_262 L xs)
theorem E_263 : setR (k_262 L xs) 99 19 117 = k_263 L xs := rfl
def k_264 (L : Nat) (xs : Nat → Int32) : aMem := newC (k_263 L xs) 10 128
theorem G_264 : Mk L xs 119 18156 zr_263 zf_224 (k_264 L xs) := mk_new (G_263 L xs) (by decide +kernel) (by decide +kernel) (by decide +kernel)
theorem E_264 : newC (k_263 L xs) 10 128 = k_264 L xs := rfl
def k_265 (L : Nat) (xs : Nat → Int32) : aMem := setR (k_264 L xs) 99 31 118
def zr_265 : List (Nat × Nat × Nat) := (99, 31, 118) :: zr_263
theorem G_265 : Mk L xs 119 18156 zr_265 zf_224 (k_265 L xs) := mk_setR (G_264 L xs)
theorem E_265 : setR (k_264 L xs) 99 31 118 = k_265 L xs := rfl
def k_266 (L : Nat) (xs : Nat → Int32) : aMem := newC (k_265 L xs) 10 100
theorem G_266 : Mk L xs 120 18256 zr_265 zf_224 (k_266 L xs) := mk_new (G_265 L xs) (by decide +kernel) (by decide +kernel) (by decide +kernel)
theorem E_266 : newC (k_265 L xs) 10 100 = k_266 L xs := rfl
def k_267 (L : Nat) (xs : Nat → Int32) : aMem := setR (k_266 L xs) 99 32 119
def zr_267 : List (Nat × Nat × Nat) := (99, 32, 119) :: zr_265
theorem G_267 : Mk L xs 120 18256 zr_267 zf_224 (k_267 L xs) := mk_setR (G_266 L xs)
theorem E_267 : setR (k_266 L xs) 99 32 119 = k_267 L xs := rfl
def k_268 (L : Nat) (xs : Nat → Int32) : aMem := newC (k_267 L xs) 10 24
theorem G_268 : Mk L xs 121 18280 zr_267 zf_224 (k_268 L xs) := mk_new (G_267 L xs) (by decide +kernel) (by decide +kernel) (by decide +kernel)
theorem E_268 : newC (k_267 L xs) 10 24 = k_268 L xs := rfl
def k_269 (L : Nat) (xs : Nat → Int32) : aMem := setR (k_268 L xs) 99 33 120
def zr_269 : List (Nat × Nat × Nat) := (99, 33, 120) :: zr_267
theorem G_269 : Mk L xs 121 18280 zr_269 zf_224 (k_269 L xs) := mk_setR (G_268 L xs)
theorem E_269 : setR (k_268 L xs) 99 33 120 = k_269 L xs := rfl
def k_270 (L : Nat) (xs : Nat → Int32) : aMem := newC (k_269 L xs) 10 24
theorem G_270 : Mk L xs 122 18304 zr_269 zf_224 (k_270 L xs) := mk_new (G_269 L xs) (by decide +kernel) (by decide +kernel) (by decide +kernel)
theorem E_270 : newC (k_269 L xs) 10 24 = k_270 L xs := rfl
def k_271 (L : Nat) (xs : Nat → Int32) : aMem := setR (k_270 L xs) 99 34 121
def zr_271 : List (Nat × Nat × Nat) := (99, 34, 121) :: zr_269
theorem G_271 : Mk L xs 122 18304 zr_271 zf_224 (k_271 L xs) := mk_setR (G_270 L xs)
theorem E_271 : setR (k_270 L xs) 99 34 121 = k_271 L xs := rfl
def k_272 (L : Nat) (xs : Nat → Int32) : aMem := newC (k_271 L xs) 10 60
theorem G_272 : Mk L xs 123 18364 zr_271 zf_224 (k_272 L xs) := mk_new (G_271 L xs) (by decide +kernel) (by decide +kernel) (by decide +kernel)
theorem E_272 : newC (k_271 L xs) 10 60 = k_272 L xs := rfl
def k_273 (L : Nat) (xs : Nat → Int32) : aMem := setR (k_272 L xs) 99 35 122
def zr_273 : List (Nat × Nat × Nat) := (99, 35, 122) :: zr_271
theorem G_273 : Mk L xs 123 18364 zr_273 zf_224 (k_273 L xs) := mk_setR (G_272 L xs)
theorem E_273 : setR (k_272 L xs) 99 35 122 = k_273 L xs := rfl
def k_274 (L : Nat) (xs : Nat → Int32) : aMem := newC (k_273 L xs) 10 60
theorem G_274 : Mk L xs 124 18424 zr_273 zf_224 (k_274 L xs) := mk_new (G_273 L xs) (by decide +kernel) (by decide +kernel) (by decide +kernel)
theorem E_274 : newC (k_273 L xs) 10 60 = k_274 L xs := rfl
def k_275 (L : Nat) (xs : Nat → Int32) : aMem := setR (k_274 L xs) 99 37 123
def zr_275 : List (Nat × Nat × Nat) := (99, 37, 123) :: zr_273
theorem G_275 : Mk L xs 124 18424 zr_275 zf_224 (k_275 L xs) := mk_setR (G_274 L xs)
theorem E_275 : setR (k_274 L xs) 99 37 123 = k_275 L xs := rfl
def k_276 (L : Nat) (xs : Nat → Int32) : aMem := setF (k_275 L xs) 100 3 1
def zf_276 : List (Nat × Nat × Int32) := (100, 3, 1) :: zf_224
theorem G_276 : Mk L xs 124 18424 zr_275 zf_276 (k_276 L xs) := mk_setF (G_275 L xs) (by decide)
theorem E_276 : setF (k_275 L xs) 100 3 1 = k_276 L xs := rfl
def k_277 (L : Nat) (xs : Nat → Int32) : aMem := setF (k_276 L xs) 103 0 (-1)
def zf_277 : List (Nat × Nat × Int32) := (103, 0, (-1)) :: zf_276
theorem G_277 : Mk L xs 124 18424 zr_275 zf_277 (k_277 L xs) := mk_setF (G_276 L xs) (by decide)
theorem E_277 : setF (k_276 L xs) 103 0 (-1) = k_277 L xs := rfl
def k_278 (L : Nat) (xs : Nat → Int32) : aMem := setF (k_277 L xs) 103 1 (-1)
def zf_278 : List (Nat × Nat × Int32) := (103, 1, (-1)) :: zf_277
theorem G_278 : Mk L xs 124 18424 zr_275 zf_278 (k_278 L xs) := mk_setF (G_277 L xs) (by decide)
theorem E_278 : setF (k_277 L xs) 103 1 (-1) = k_278 L xs := rfl
def k_279 (L : Nat) (xs : Nat → Int32) : aMem := setF (k_278 L xs) 103 2 (-1)
def zf_279 : List (Nat × Nat × Int32) := (103, 2, (-1)) :: zf_278
theorem G_279 : Mk L xs 124 18424 zr_275 zf_279 (k_279 L xs) := mk_setF (G_278 L xs) (by decide)
theorem E_279 : setF (k_278 L xs) 103 2 (-1) = k_279 L xs := rfl
def k_280 (L : Nat) (xs : Nat → Int32) : aMem := setF (k_279 L xs) 103 3 (-1)
def zf_280 : List (Nat × Nat × Int32) := (103, 3, (-1)) :: zf_279
theorem G_280 : Mk L xs 124 18424 zr_275 zf_280 (k_280 L xs) := mk_setF (G_279 L xs) (by decide)
theorem E_280 : setF (k_279 L xs) 103 3 (-1) = k_280 L xs := rfl
theorem kt_61_0 : Rn 100 132 (0, [.ref 99, un], [], k_227 L xs) = Rn 100 132 (13, [.ref 99, un], [], k_229 L xs) := by
  have n227 := (G_227 L xs).N
  have s227_99 : mS (k_227 L xs) 99 = (9, 38) := (G_227 L xs).S 99 (by decide)
  have n228 := (G_228 L xs).N
  have s228_99 : mS (k_228 L xs) 99 = (9, 38) := (G_228 L xs).S 99 (by decide)
  have s228_100 : mS (k_228 L xs) 100 = (10, 3114) := (G_228 L xs).S 100 (by decide)
  have n229 := (G_229 L xs).N
  have s229_99 : mS (k_229 L xs) 99 = (9, 38) := (G_229 L xs).S 99 (by decide)
  have s229_100 : mS (k_229 L xs) 100 = (10, 3114) := (G_229 L xs).S 100 (by decide)
  have r229_0 : mR (k_229 L xs) 99 0 = 100 := ((G_229 L xs).R 99 0).trans (by decide +kernel)
  refine (q_132_0 100 99 (k_227 L xs)).trans ?_
  try simp only [n227, s227_99, n228, s228_99, s228_100, n229, s229_99, s229_100, r229_0, E_228, E_229, ix_0, ix_1, ix_2, ix_3, ix_4, ix_5, ix_6, ix_7, ix_8, ix_9, ix_10, ix_14, ix_20, ix_24, ix_60, ix_96, ix_100, ix_120, ix_128, ix_2981, ix_3114, ix_4000]
  try rfl
theorem kt_61_1 : Rn 100 132 (13, [.ref 99, un], [], k_229 L xs) = Rn 100 132 (22, [.ref 99, un], [], k_231 L xs) := by
  have n229 := (G_229 L xs).N
  have s229_99 : mS (k_229 L xs) 99 = (9, 38) := (G_229 L xs).S 99 (by decide)
  have n230 := (G_230 L xs).N
  have s230_99 : mS (k_230 L xs) 99 = (9, 38) := (G_230 L xs).S 99 (by decide)
  have s230_101 : mS (k_230 L xs) 101 = (10, 3114) := (G_230 L xs).S 101 (by decide)
  have n231 := (G_231 L xs).N
  have s231_99 : mS (k_231 L xs) 99 = (9, 38) := (G_231 L xs).S 99 (by decide)
  have s231_101 : mS (k_231 L xs) 101 = (10, 3114) := (G_231 L xs).S 101 (by decide)
  have r231_1 : mR (k_231 L xs) 99 1 = 101 := ((G_231 L xs).R 99 1).trans (by decide +kernel)
  refine (q_132_13 100 99 un (k_229 L xs)).trans ?_
  try simp only [n229, s229_99, n230, s230_99, s230_101, n231, s231_99, s231_101, r231_1, E_230, E_231, ix_0, ix_1, ix_2, ix_3, ix_4, ix_5, ix_6, ix_7, ix_8, ix_9, ix_10, ix_14, ix_20, ix_24, ix_60, ix_96, ix_100, ix_120, ix_128, ix_2981, ix_3114, ix_4000]
  try rfl
theorem kt_61_2 : Rn 100 132 (22, [.ref 99, un], [], k_231 L xs) = Rn 100 132 (31, [.ref 99, un], [], k_233 L xs) := by
  have n231 := (G_231 L xs).N
  have s231_99 : mS (k_231 L xs) 99 = (9, 38) := (G_231 L xs).S 99 (by decide)
  have n232 := (G_232 L xs).N
  have s232_99 : mS (k_232 L xs) 99 = (9, 38) := (G_232 L xs).S 99 (by decide)
  have s232_102 : mS (k_232 L xs) 102 = (10, 3114) := (G_232 L xs).S 102 (by decide)
  have n233 := (G_233 L xs).N
  have s233_99 : mS (k_233 L xs) 99 = (9, 38) := (G_233 L xs).S 99 (by decide)
  have s233_102 : mS (k_233 L xs) 102 = (10, 3114) := (G_233 L xs).S 102 (by decide)
  have r233_2 : mR (k_233 L xs) 99 2 = 102 := ((G_233 L xs).R 99 2).trans (by decide +kernel)
  refine (q_132_22 100 99 un (k_231 L xs)).trans ?_
  try simp only [n231, s231_99, n232, s232_99, s232_102, n233, s233_99, s233_102, r233_2, E_232, E_233, ix_0, ix_1, ix_2, ix_3, ix_4, ix_5, ix_6, ix_7, ix_8, ix_9, ix_10, ix_14, ix_20, ix_24, ix_60, ix_96, ix_100, ix_120, ix_128, ix_2981, ix_3114, ix_4000]
  try rfl
theorem kt_61_3 : Rn 100 132 (31, [.ref 99, un], [], k_233 L xs) = Rn 100 132 (38, [.ref 99, un], [], k_235 L xs) := by
  have n233 := (G_233 L xs).N
  have s233_99 : mS (k_233 L xs) 99 = (9, 38) := (G_233 L xs).S 99 (by decide)
  have n234 := (G_234 L xs).N
  have s234_99 : mS (k_234 L xs) 99 = (9, 38) := (G_234 L xs).S 99 (by decide)
  have s234_103 : mS (k_234 L xs) 103 = (10, 4) := (G_234 L xs).S 103 (by decide)
  have n235 := (G_235 L xs).N
  have s235_99 : mS (k_235 L xs) 99 = (9, 38) := (G_235 L xs).S 99 (by decide)
  have s235_103 : mS (k_235 L xs) 103 = (10, 4) := (G_235 L xs).S 103 (by decide)
  have r235_4 : mR (k_235 L xs) 99 4 = 103 := ((G_235 L xs).R 99 4).trans (by decide +kernel)
  refine (q_132_31 100 99 un (k_233 L xs)).trans ?_
  try simp only [n233, s233_99, n234, s234_99, s234_103, n235, s235_99, s235_103, r235_4, E_234, E_235, ix_0, ix_1, ix_2, ix_3, ix_4, ix_5, ix_6, ix_7, ix_8, ix_9, ix_10, ix_14, ix_20, ix_24, ix_60, ix_96, ix_100, ix_120, ix_128, ix_2981, ix_3114, ix_4000]
  try rfl
theorem kt_61_4 : Rn 100 132 (38, [.ref 99, un], [], k_235 L xs) = Rn 100 132 (45, [.ref 99, un], [], k_237 L xs) := by
  have n235 := (G_235 L xs).N
  have s235_99 : mS (k_235 L xs) 99 = (9, 38) := (G_235 L xs).S 99 (by decide)
  have n236 := (G_236 L xs).N
  have s236_99 : mS (k_236 L xs) 99 = (9, 38) := (G_236 L xs).S 99 (by decide)
  have s236_104 : mS (k_236 L xs) 104 = (10, 4) := (G_236 L xs).S 104 (by decide)
  have n237 := (G_237 L xs).N
  have s237_99 : mS (k_237 L xs) 99 = (9, 38) := (G_237 L xs).S 99 (by decide)
  have s237_104 : mS (k_237 L xs) 104 = (10, 4) := (G_237 L xs).S 104 (by decide)
  have r237_5 : mR (k_237 L xs) 99 5 = 104 := ((G_237 L xs).R 99 5).trans (by decide +kernel)
  refine (q_132_38 100 99 un (k_235 L xs)).trans ?_
  try simp only [n235, s235_99, n236, s236_99, s236_104, n237, s237_99, s237_104, r237_5, E_236, E_237, ix_0, ix_1, ix_2, ix_3, ix_4, ix_5, ix_6, ix_7, ix_8, ix_9, ix_10, ix_14, ix_20, ix_24, ix_60, ix_96, ix_100, ix_120, ix_128, ix_2981, ix_3114, ix_4000]
  try rfl
theorem kt_61_5 : Rn 100 132 (45, [.ref 99, un], [], k_237 L xs) = Rn 100 132 (53, [.ref 99, un], [], k_239 L xs) := by
  have n237 := (G_237 L xs).N
  have s237_99 : mS (k_237 L xs) 99 = (9, 38) := (G_237 L xs).S 99 (by decide)
  have n238 := (G_238 L xs).N
  have s238_99 : mS (k_238 L xs) 99 = (9, 38) := (G_238 L xs).S 99 (by decide)
  have s238_105 : mS (k_238 L xs) 105 = (10, 96) := (G_238 L xs).S 105 (by decide)
  have n239 := (G_239 L xs).N
  have s239_99 : mS (k_239 L xs) 99 = (9, 38) := (G_239 L xs).S 99 (by decide)
  have s239_105 : mS (k_239 L xs) 105 = (10, 96) := (G_239 L xs).S 105 (by decide)
  have r239_6 : mR (k_239 L xs) 99 6 = 105 := ((G_239 L xs).R 99 6).trans (by decide +kernel)
  refine (q_132_45 100 99 un (k_237 L xs)).trans ?_
  try simp only [n237, s237_99, n238, s238_99, s238_105, n239, s239_99, s239_105, r239_6, E_238, E_239, ix_0, ix_1, ix_2, ix_3, ix_4, ix_5, ix_6, ix_7, ix_8, ix_9, ix_10, ix_14, ix_20, ix_24, ix_60, ix_96, ix_100, ix_120, ix_128, ix_2981, ix_3114, ix_4000]
  try rfl
theorem kt_61_6 : Rn 100 132 (53, [.ref 99, un], [], k_239 L xs) = Rn 100 132 (60, [.ref 99, un], [], k_241 L xs) := by
  have n239 := (G_239 L xs).N
  have s239_99 : mS (k_239 L xs) 99 = (9, 38) := (G_239 L xs).S 99 (by decide)
  have n240 := (G_240 L xs).N
  have s240_99 : mS (k_240 L xs) 99 = (9, 38) := (G_240 L xs).S 99 (by decide)
  have s240_106 : mS (k_240 L xs) 106 = (10, 5) := (G_240 L xs).S 106 (by decide)
  have n241 := (G_241 L xs).N
  have s241_99 : mS (k_241 L xs) 99 = (9, 38) := (G_241 L xs).S 99 (by decide)
  have s241_106 : mS (k_241 L xs) 106 = (10, 5) := (G_241 L xs).S 106 (by decide)
  have r241_7 : mR (k_241 L xs) 99 7 = 106 := ((G_241 L xs).R 99 7).trans (by decide +kernel)
  refine (q_132_53 100 99 un (k_239 L xs)).trans ?_
  try simp only [n239, s239_99, n240, s240_99, s240_106, n241, s241_99, s241_106, r241_7, E_240, E_241, ix_0, ix_1, ix_2, ix_3, ix_4, ix_5, ix_6, ix_7, ix_8, ix_9, ix_10, ix_14, ix_20, ix_24, ix_60, ix_96, ix_100, ix_120, ix_128, ix_2981, ix_3114, ix_4000]
  try rfl
theorem kt_61_7 : Rn 100 132 (60, [.ref 99, un], [], k_241 L xs) = Rn 100 132 (67, [.ref 99, un], [], k_243 L xs) := by
  have n241 := (G_241 L xs).N
  have s241_99 : mS (k_241 L xs) 99 = (9, 38) := (G_241 L xs).S 99 (by decide)
  have n242 := (G_242 L xs).N
  have s242_99 : mS (k_242 L xs) 99 = (9, 38) := (G_242 L xs).S 99 (by decide)
  have s242_107 : mS (k_242 L xs) 107 = (10, 5) := (G_242 L xs).S 107 (by decide)
  have n243 := (G_243 L xs).N
  have s243_99 : mS (k_243 L xs) 99 = (9, 38) := (G_243 L xs).S 99 (by decide)
  have s243_107 : mS (k_243 L xs) 107 = (10, 5) := (G_243 L xs).S 107 (by decide)
  have r243_8 : mR (k_243 L xs) 99 8 = 107 := ((G_243 L xs).R 99 8).trans (by decide +kernel)
  refine (q_132_60 100 99 un (k_241 L xs)).trans ?_
  try simp only [n241, s241_99, n242, s242_99, s242_107, n243, s243_99, s243_107, r243_8, E_242, E_243, ix_0, ix_1, ix_2, ix_3, ix_4, ix_5, ix_6, ix_7, ix_8, ix_9, ix_10, ix_14, ix_20, ix_24, ix_60, ix_96, ix_100, ix_120, ix_128, ix_2981, ix_3114, ix_4000]
  try rfl
theorem kt_61_8 : Rn 100 132 (67, [.ref 99, un], [], k_243 L xs) = Rn 100 132 (74, [.ref 99, un], [], k_245 L xs) := by
  have n243 := (G_243 L xs).N
  have s243_99 : mS (k_243 L xs) 99 = (9, 38) := (G_243 L xs).S 99 (by decide)
  have n244 := (G_244 L xs).N
  have s244_99 : mS (k_244 L xs) 99 = (9, 38) := (G_244 L xs).S 99 (by decide)
  have s244_108 : mS (k_244 L xs) 108 = (10, 5) := (G_244 L xs).S 108 (by decide)
  have n245 := (G_245 L xs).N
  have s245_99 : mS (k_245 L xs) 99 = (9, 38) := (G_245 L xs).S 99 (by decide)
  have s245_108 : mS (k_245 L xs) 108 = (10, 5) := (G_245 L xs).S 108 (by decide)
  have r245_9 : mR (k_245 L xs) 99 9 = 108 := ((G_245 L xs).R 99 9).trans (by decide +kernel)
  refine (q_132_67 100 99 un (k_243 L xs)).trans ?_
  try simp only [n243, s243_99, n244, s244_99, s244_108, n245, s245_99, s245_108, r245_9, E_244, E_245, ix_0, ix_1, ix_2, ix_3, ix_4, ix_5, ix_6, ix_7, ix_8, ix_9, ix_10, ix_14, ix_20, ix_24, ix_60, ix_96, ix_100, ix_120, ix_128, ix_2981, ix_3114, ix_4000]
  try rfl
theorem kt_61_9 : Rn 100 132 (74, [.ref 99, un], [], k_245 L xs) = Rn 100 132 (81, [.ref 99, un], [], k_247 L xs) := by
  have n245 := (G_245 L xs).N
  have s245_99 : mS (k_245 L xs) 99 = (9, 38) := (G_245 L xs).S 99 (by decide)
  have n246 := (G_246 L xs).N
  have s246_99 : mS (k_246 L xs) 99 = (9, 38) := (G_246 L xs).S 99 (by decide)
  have s246_109 : mS (k_246 L xs) 109 = (10, 5) := (G_246 L xs).S 109 (by decide)
  have n247 := (G_247 L xs).N
  have s247_99 : mS (k_247 L xs) 99 = (9, 38) := (G_247 L xs).S 99 (by decide)
  have s247_109 : mS (k_247 L xs) 109 = (10, 5) := (G_247 L xs).S 109 (by decide)
  have r247_10 : mR (k_247 L xs) 99 10 = 109 := ((G_247 L xs).R 99 10).trans (by decide +kernel)
  refine (q_132_74 100 99 un (k_245 L xs)).trans ?_
  try simp only [n245, s245_99, n246, s246_99, s246_109, n247, s247_99, s247_109, r247_10, E_246, E_247, ix_0, ix_1, ix_2, ix_3, ix_4, ix_5, ix_6, ix_7, ix_8, ix_9, ix_10, ix_14, ix_20, ix_24, ix_60, ix_96, ix_100, ix_120, ix_128, ix_2981, ix_3114, ix_4000]
  try rfl
theorem kt_61_10 : Rn 100 132 (81, [.ref 99, un], [], k_247 L xs) = Rn 100 132 (89, [.ref 99, un], [], k_249 L xs) := by
  have n247 := (G_247 L xs).N
  have s247_99 : mS (k_247 L xs) 99 = (9, 38) := (G_247 L xs).S 99 (by decide)
  have n248 := (G_248 L xs).N
  have s248_99 : mS (k_248 L xs) 99 = (9, 38) := (G_248 L xs).S 99 (by decide)
  have s248_110 : mS (k_248 L xs) 110 = (10, 120) := (G_248 L xs).S 110 (by decide)
  have n249 := (G_249 L xs).N
  have s249_99 : mS (k_249 L xs) 99 = (9, 38) := (G_249 L xs).S 99 (by decide)
  have s249_110 : mS (k_249 L xs) 110 = (10, 120) := (G_249 L xs).S 110 (by decide)
  have r249_11 : mR (k_249 L xs) 99 11 = 110 := ((G_249 L xs).R 99 11).trans (by decide +kernel)
  refine (q_132_81 100 99 un (k_247 L xs)).trans ?_
  try simp only [n247, s247_99, n248, s248_99, s248_110, n249, s249_99, s249_110, r249_11, E_248, E_249, ix_0, ix_1, ix_2, ix_3, ix_4, ix_5, ix_6, ix_7, ix_8, ix_9, ix_10, ix_14, ix_20, ix_24, ix_60, ix_96, ix_100, ix_120, ix_128, ix_2981, ix_3114, ix_4000]
  try rfl
theorem kt_61_11 : Rn 100 132 (89, [.ref 99, un], [], k_249 L xs) = Rn 100 132 (97, [.ref 99, un], [], k_251 L xs) := by
  have n249 := (G_249 L xs).N
  have s249_99 : mS (k_249 L xs) 99 = (9, 38) := (G_249 L xs).S 99 (by decide)
  have n250 := (G_250 L xs).N
  have s250_99 : mS (k_250 L xs) 99 = (9, 38) := (G_250 L xs).S 99 (by decide)
  have s250_111 : mS (k_250 L xs) 111 = (10, 10) := (G_250 L xs).S 111 (by decide)
  have n251 := (G_251 L xs).N
  have s251_99 : mS (k_251 L xs) 99 = (9, 38) := (G_251 L xs).S 99 (by decide)
  have s251_111 : mS (k_251 L xs) 111 = (10, 10) := (G_251 L xs).S 111 (by decide)
  have r251_12 : mR (k_251 L xs) 99 12 = 111 := ((G_251 L xs).R 99 12).trans (by decide +kernel)
  refine (q_132_89 100 99 un (k_249 L xs)).trans ?_
  try simp only [n249, s249_99, n250, s250_99, s250_111, n251, s251_99, s251_111, r251_12, E_250, E_251, ix_0, ix_1, ix_2, ix_3, ix_4, ix_5, ix_6, ix_7, ix_8, ix_9, ix_10, ix_14, ix_20, ix_24, ix_60, ix_96, ix_100, ix_120, ix_128, ix_2981, ix_3114, ix_4000]
  try rfl
theorem kt_61_12 : Rn 100 132 (97, [.ref 99, un], [], k_251 L xs) = Rn 100 132 (105, [.ref 99, un], [], k_253 L xs) := by
  have n251 := (G_251 L xs).N
  have s251_99 : mS (k_251 L xs) 99 = (9, 38) := (G_251 L xs).S 99 (by decide)
  have n252 := (G_252 L xs).N
  have s252_99 : mS (k_252 L xs) 99 = (9, 38) := (G_252 L xs).S 99 (by decide)
  have s252_112 : mS (k_252 L xs) 112 = (10, 10) := (G_252 L xs).S 112 (by decide)
  have n253 := (G_253 L xs).N
  have s253_99 : mS (k_253 L xs) 99 = (9, 38) := (G_253 L xs).S 99 (by decide)
  have s253_112 : mS (k_253 L xs) 112 = (10, 10) := (G_253 L xs).S 112 (by decide)
  have r253_13 : mR (k_253 L xs) 99 13 = 112 := ((G_253 L xs).R 99 13).trans (by decide +kernel)
  refine (q_132_97 100 99 un (k_251 L xs)).trans ?_
  try simp only [n251, s251_99, n252, s252_99, s252_112, n253, s253_99, s253_112, r253_13, E_252, E_253, ix_0, ix_1, ix_2, ix_3, ix_4, ix_5, ix_6, ix_7, ix_8, ix_9, ix_10, ix_14, ix_20, ix_24, ix_60, ix_96, ix_100, ix_120, ix_128, ix_2981, ix_3114, ix_4000]
  try rfl
theorem kt_61_13 : Rn 100 132 (105, [.ref 99, un], [], k_253 L xs) = Rn 100 132 (113, [.ref 99, un], [], k_255 L xs) := by
  have n253 := (G_253 L xs).N
  have s253_99 : mS (k_253 L xs) 99 = (9, 38) := (G_253 L xs).S 99 (by decide)
  have n254 := (G_254 L xs).N
  have s254_99 : mS (k_254 L xs) 99 = (9, 38) := (G_254 L xs).S 99 (by decide)
  have s254_113 : mS (k_254 L xs) 113 = (10, 10) := (G_254 L xs).S 113 (by decide)
  have n255 := (G_255 L xs).N
  have s255_99 : mS (k_255 L xs) 99 = (9, 38) := (G_255 L xs).S 99 (by decide)
  have s255_113 : mS (k_255 L xs) 113 = (10, 10) := (G_255 L xs).S 113 (by decide)
  have r255_14 : mR (k_255 L xs) 99 14 = 113 := ((G_255 L xs).R 99 14).trans (by decide +kernel)
  refine (q_132_105 100 99 un (k_253 L xs)).trans ?_
  try simp only [n253, s253_99, n254, s254_99, s254_113, n255, s255_99, s255_113, r255_14, E_254, E_255, ix_0, ix_1, ix_2, ix_3, ix_4, ix_5, ix_6, ix_7, ix_8, ix_9, ix_10, ix_14, ix_20, ix_24, ix_60, ix_96, ix_100, ix_120, ix_128, ix_2981, ix_3114, ix_4000]
  try rfl
theorem kt_61_14 : Rn 100 132 (113, [.ref 99, un], [], k_255 L xs) = Rn 100 132 (121, [.ref 99, un], [], k_257 L xs) := by
  have n255 := (G_255 L xs).N
  have s255_99 : mS (k_255 L xs) 99 = (9, 38) := (G_255 L xs).S 99 (by decide)
  have n256 := (G_256 L xs).N
  have s256_99 : mS (k_256 L xs) 99 = (9, 38) := (G_256 L xs).S 99 (by decide)
  have s256_114 : mS (k_256 L xs) 114 = (10, 10) := (G_256 L xs).S 114 (by decide)
  have n257 := (G_257 L xs).N
  have s257_99 : mS (k_257 L xs) 99 = (9, 38) := (G_257 L xs).S 99 (by decide)
  have s257_114 : mS (k_257 L xs) 114 = (10, 10) := (G_257 L xs).S 114 (by decide)
  have r257_15 : mR (k_257 L xs) 99 15 = 114 := ((G_257 L xs).R 99 15).trans (by decide +kernel)
  refine (q_132_113 100 99 un (k_255 L xs)).trans ?_
  try simp only [n255, s255_99, n256, s256_99, s256_114, n257, s257_99, s257_114, r257_15, E_256, E_257, ix_0, ix_1, ix_2, ix_3, ix_4, ix_5, ix_6, ix_7, ix_8, ix_9, ix_10, ix_14, ix_20, ix_24, ix_60, ix_96, ix_100, ix_120, ix_128, ix_2981, ix_3114, ix_4000]
  try rfl
theorem kt_61_15 : Rn 100 132 (121, [.ref 99, un], [], k_257 L xs) = Rn 100 132 (129, [.ref 99, un], [], k_259 L xs) := by
  have n257 := (G_257 L xs).N
  have s257_99 : mS (k_257 L xs) 99 = (9, 38) := (G_257 L xs).S 99 (by decide)
  have n258 := (G_258 L xs).N
  have s258_99 : mS (k_258 L xs) 99 = (9, 38) := (G_258 L xs).S 99 (by decide)
  have s258_115 : mS (k_258 L xs) 115 = (10, 10) := (G_258 L xs).S 115 (by decide)
  have n259 := (G_259 L xs).N
  have s259_99 : mS (k_259 L xs) 99 = (9, 38) := (G_259 L xs).S 99 (by decide)
  have s259_115 : mS (k_259 L xs) 115 = (10, 10) := (G_259 L xs).S 115 (by decide)
  have r259_16 : mR (k_259 L xs) 99 16 = 115 := ((G_259 L xs).R 99 16).trans (by decide +kernel)
  refine (q_132_121 100 99 un (k_257 L xs)).trans ?_
  try simp only [n257, s257_99, n258, s258_99, s258_115, n259, s259_99, s259_115, r259_16, E_258, E_259, ix_0, ix_1, ix_2, ix_3, ix_4, ix_5, ix_6, ix_7, ix_8, ix_9, ix_10, ix_14, ix_20, ix_24, ix_60, ix_96, ix_100, ix_120, ix_128, ix_2981, ix_3114, ix_4000]
  try rfl
theorem kt_61_16 : Rn 100 132 (129, [.ref 99, un], [], k_259 L xs) = Rn 100 132 (138, [.ref 99, un], [], k_261 L xs) := by
  have n259 := (G_259 L xs).N
  have s259_99 : mS (k_259 L xs) 99 = (9, 38) := (G_259 L xs).S 99 (by decide)
  have n260 := (G_260 L xs).N
  have s260_99 : mS (k_260 L xs) 99 = (9, 38) := (G_260 L xs).S 99 (by decide)
  have s260_116 : mS (k_260 L xs) 116 = (11, 4000) := (G_260 L xs).S 116 (by decide)
  have n261 := (G_261 L xs).N
  have s261_99 : mS (k_261 L xs) 99 = (9, 38) := (G_261 L xs).S 99 (by decide)
  have s261_116 : mS (k_261 L xs) 116 = (11, 4000) := (G_261 L xs).S 116 (by decide)
  have r261_17 : mR (k_261 L xs) 99 17 = 116 := ((G_261 L xs).R 99 17).trans (by decide +kernel)
  refine (q_132_129 100 99 un (k_259 L xs)).trans ?_
  try simp only [n259, s259_99, n260, s260_99, s260_116, n261, s261_99, s261_116, r261_17, E_260, E_261, ix_0, ix_1, ix_2, ix_3, ix_4, ix_5, ix_6, ix_7, ix_8, ix_9, ix_10, ix_14, ix_20, ix_24, ix_60, ix_96, ix_100, ix_120, ix_128, ix_2981, ix_3114, ix_4000]
  try rfl
theorem kt_61_17 : Rn 100 132 (138, [.ref 99, un], [], k_261 L xs) = Rn 100 132 (146, [.ref 99, un], [], k_263 L xs) := by
  have n261 := (G_261 L xs).N
  have s261_99 : mS (k_261 L xs) 99 = (9, 38) := (G_261 L xs).S 99 (by decide)
  have n262 := (G_262 L xs).N
  have s262_99 : mS (k_262 L xs) 99 = (9, 38) := (G_262 L xs).S 99 (by decide)
  have s262_117 : mS (k_262 L xs) 117 = (10, 96) := (G_262 L xs).S 117 (by decide)
  have n263 := (G_263 L xs).N
  have s263_99 : mS (k_263 L xs) 99 = (9, 38) := (G_263 L xs).S 99 (by decide)
  have s263_117 : mS (k_263 L xs) 117 = (10, 96) := (G_263 L xs).S 117 (by decide)
  have r263_19 : mR (k_263 L xs) 99 19 = 117 := ((G_263 L xs).R 99 19).trans (by decide +kernel)
  refine (q_132_138 100 99 un (k_261 L xs)).trans ?_
  try simp only [n261, s261_99, n262, s262_99, s262_117, n263, s263_99, s263_117, r263_19, E_262, E_263, ix_0, ix_1, ix_2, ix_3, ix_4, ix_5, ix_6, ix_7, ix_8, ix_9, ix_10, ix_14, ix_20, ix_24, ix_60, ix_96, ix_100, ix_120, ix_128, ix_2981, ix_3114, ix_4000]
  try rfl
theorem kt_61_18 : Rn 100 132 (146, [.ref 99, un], [], k_263 L xs) = Rn 100 132 (155, [.ref 99, un], [], k_265 L xs) := by
  have n263 := (G_263 L xs).N
  have s263_99 : mS (k_263 L xs) 99 = (9, 38) := (G_263 L xs).S 99 (by decide)
  have n264 := (G_264 L xs).N
  have s264_99 : mS (k_264 L xs) 99 = (9, 38) := (G_264 L xs).S 99 (by decide)
  have s264_118 : mS (k_264 L xs) 118 = (10, 128) := (G_264 L xs).S 118 (by decide)
  have n265 := (G_265 L xs).N
  have s265_99 : mS (k_265 L xs) 99 = (9, 38) := (G_265 L xs).S 99 (by decide)
  have s265_118 : mS (k_265 L xs) 118 = (10, 128) := (G_265 L xs).S 118 (by decide)
  have r265_31 : mR (k_265 L xs) 99 31 = 118 := ((G_265 L xs).R 99 31).trans (by decide +kernel)
  refine (q_132_146 100 99 un (k_263 L xs)).trans ?_
  try simp only [n263, s263_99, n264, s264_99, s264_118, n265, s265_99, s265_118, r265_31, E_264, E_265, ix_0, ix_1, ix_2, ix_3, ix_4, ix_5, ix_6, ix_7, ix_8, ix_9, ix_10, ix_14, ix_20, ix_24, ix_60, ix_96, ix_100, ix_120, ix_128, ix_2981, ix_3114, ix_4000]
  try rfl
theorem kt_61_19 : Rn 100 132 (155, [.ref 99, un], [], k_265 L xs) = Rn 100 132 (163, [.ref 99, un], [], k_267 L xs) := by
  have n265 := (G_265 L xs).N
  have s265_99 : mS (k_265 L xs) 99 = (9, 38) := (G_265 L xs).S 99 (by decide)
  have n266 := (G_266 L xs).N
  have s266_99 : mS (k_266 L xs) 99 = (9, 38) := (G_266 L xs).S 99 (by decide)
  have s266_119 : mS (k_266 L xs) 119 = (10, 100) := (G_266 L xs).S 119 (by decide)
  have n267 := (G_267 L xs).N
  have s267_99 : mS (k_267 L xs) 99 = (9, 38) := (G_267 L xs).S 99 (by decide)
  have s267_119 : mS (k_267 L xs) 119 = (10, 100) := (G_267 L xs).S 119 (by decide)
  have r267_32 : mR (k_267 L xs) 99 32 = 119 := ((G_267 L xs).R 99 32).trans (by decide +kernel)
  refine (q_132_155 100 99 un (k_265 L xs)).trans ?_
  try simp only [n265, s265_99, n266, s266_99, s266_119, n267, s267_99, s267_119, r267_32, E_266, E_267, ix_0, ix_1, ix_2, ix_3, ix_4, ix_5, ix_6, ix_7, ix_8, ix_9, ix_10, ix_14, ix_20, ix_24, ix_60, ix_96, ix_100, ix_120, ix_128, ix_2981, ix_3114, ix_4000]
  try rfl
theorem kt_61_20 : Rn 100 132 (163, [.ref 99, un], [], k_267 L xs) = Rn 100 132 (171, [.ref 99, un], [], k_269 L xs) := by
  have n267 := (G_267 L xs).N
  have s267_99 : mS (k_267 L xs) 99 = (9, 38) := (G_267 L xs).S 99 (by decide)
  have n268 := (G_268 L xs).N
  have s268_99 : mS (k_268 L xs) 99 = (9, 38) := (G_268 L xs).S 99 (by decide)
  have s268_120 : mS (k_268 L xs) 120 = (10, 24) := (G_268 L xs).S 120 (by decide)
  have n269 := (G_269 L xs).N
  have s269_99 : mS (k_269 L xs) 99 = (9, 38) := (G_269 L xs).S 99 (by decide)
  have s269_120 : mS (k_269 L xs) 120 = (10, 24) := (G_269 L xs).S 120 (by decide)
  have r269_33 : mR (k_269 L xs) 99 33 = 120 := ((G_269 L xs).R 99 33).trans (by decide +kernel)
  refine (q_132_163 100 99 un (k_267 L xs)).trans ?_
  try simp only [n267, s267_99, n268, s268_99, s268_120, n269, s269_99, s269_120, r269_33, E_268, E_269, ix_0, ix_1, ix_2, ix_3, ix_4, ix_5, ix_6, ix_7, ix_8, ix_9, ix_10, ix_14, ix_20, ix_24, ix_60, ix_96, ix_100, ix_120, ix_128, ix_2981, ix_3114, ix_4000]
  try rfl
theorem kt_61_21 : Rn 100 132 (171, [.ref 99, un], [], k_269 L xs) = Rn 100 132 (179, [.ref 99, un], [], k_271 L xs) := by
  have n269 := (G_269 L xs).N
  have s269_99 : mS (k_269 L xs) 99 = (9, 38) := (G_269 L xs).S 99 (by decide)
  have n270 := (G_270 L xs).N
  have s270_99 : mS (k_270 L xs) 99 = (9, 38) := (G_270 L xs).S 99 (by decide)
  have s270_121 : mS (k_270 L xs) 121 = (10, 24) := (G_270 L xs).S 121 (by decide)
  have n271 := (G_271 L xs).N
  have s271_99 : mS (k_271 L xs) 99 = (9, 38) := (G_271 L xs).S 99 (by decide)
  have s271_121 : mS (k_271 L xs) 121 = (10, 24) := (G_271 L xs).S 121 (by decide)
  have r271_34 : mR (k_271 L xs) 99 34 = 121 := ((G_271 L xs).R 99 34).trans (by decide +kernel)
  refine (q_132_171 100 99 un (k_269 L xs)).trans ?_
  try simp only [n269, s269_99, n270, s270_99, s270_121, n271, s271_99, s271_121, r271_34, E_270, E_271, ix_0, ix_1, ix_2, ix_3, ix_4, ix_5, ix_6, ix_7, ix_8, ix_9, ix_10, ix_14, ix_20, ix_24, ix_60, ix_96, ix_100, ix_120, ix_128, ix_2981, ix_3114, ix_4000]
  try rfl
theorem kt_61_22 : Rn 100 132 (179, [.ref 99, un], [], k_271 L xs) = Rn 100 132 (187, [.ref 99, un], [], k_273 L xs) := by
  have n271 := (G_271 L xs).N
  have s271_99 : mS (k_271 L xs) 99 = (9, 38) := (G_271 L xs).S 99 (by decide)
  have n272 := (G_272 L xs).N
  have s272_99 : mS (k_272 L xs) 99 = (9, 38) := (G_272 L xs).S 99 (by decide)
  have s272_122 : mS (k_272 L xs) 122 = (10, 60) := (G_272 L xs).S 122 (by decide)
  have n273 := (G_273 L xs).N
  have s273_99 : mS (k_273 L xs) 99 = (9, 38) := (G_273 L xs).S 99 (by decide)
  have s273_122 : mS (k_273 L xs) 122 = (10, 60) := (G_273 L xs).S 122 (by decide)
  have r273_35 : mR (k_273 L xs) 99 35 = 122 := ((G_273 L xs).R 99 35).trans (by decide +kernel)
  refine (q_132_179 100 99 un (k_271 L xs)).trans ?_
  try simp only [n271, s271_99, n272, s272_99, s272_122, n273, s273_99, s273_122, r273_35, E_272, E_273, ix_0, ix_1, ix_2, ix_3, ix_4, ix_5, ix_6, ix_7, ix_8, ix_9, ix_10, ix_14, ix_20, ix_24, ix_60, ix_96, ix_100, ix_120, ix_128, ix_2981, ix_3114, ix_4000]
  try rfl
theorem kt_61_23 : Rn 100 132 (187, [.ref 99, un], [], k_273 L xs) = Rn 100 132 (195, [.ref 99, un], [], k_275 L xs) := by
  have n273 := (G_273 L xs).N
  have s273_99 : mS (k_273 L xs) 99 = (9, 38) := (G_273 L xs).S 99 (by decide)
  have n274 := (G_274 L xs).N
  have s274_99 : mS (k_274 L xs) 99 = (9, 38) := (G_274 L xs).S 99 (by decide)
  have s274_123 : mS (k_274 L xs) 123 = (10, 60) := (G_274 L xs).S 123 (by decide)
  have n275 := (G_275 L xs).N
  have s275_99 : mS (k_275 L xs) 99 = (9, 38) := (G_275 L xs).S 99 (by decide)
  have s275_123 : mS (k_275 L xs) 123 = (10, 60) := (G_275 L xs).S 123 (by decide)
  have r275_37 : mR (k_275 L xs) 99 37 = 123 := ((G_275 L xs).R 99 37).trans (by decide +kernel)
  refine (q_132_187 100 99 un (k_273 L xs)).trans ?_
  try simp only [n273, s273_99, n274, s274_99, s274_123, n275, s275_99, s275_123, r275_37, E_274, E_275, ix_0, ix_1, ix_2, ix_3, ix_4, ix_5, ix_6, ix_7, ix_8, ix_9, ix_10, ix_14, ix_20, ix_24, ix_60, ix_96, ix_100, ix_120, ix_128, ix_2981, ix_3114, ix_4000]
  try rfl
theorem kt_61_24 : Rn 100 132 (195, [.ref 99, un], [], k_275 L xs) = Rn 100 132 (204, [.ref 99, .int 0], [], k_276 L xs) := by
  have n275 := (G_275 L xs).N
  have s275_99 : mS (k_275 L xs) 99 = (9, 38) := (G_275 L xs).S 99 (by decide)
  have s275_100 : mS (k_275 L xs) 100 = (10, 3114) := (G_275 L xs).S 100 (by decide)
  have r275_0 : mR (k_275 L xs) 99 0 = 100 := ((G_275 L xs).R 99 0).trans (by decide +kernel)
  have n276 := (G_276 L xs).N
  have s276_99 : mS (k_276 L xs) 99 = (9, 38) := (G_276 L xs).S 99 (by decide)
  have s276_100 : mS (k_276 L xs) 100 = (10, 3114) := (G_276 L xs).S 100 (by decide)
  have r276_0 : mR (k_276 L xs) 99 0 = 100 := ((G_276 L xs).R 99 0).trans (by decide +kernel)
  refine (q_132_195 100 99 un (k_275 L xs)).trans ?_
  try simp only [n275, s275_99, s275_100, r275_0, n276, s276_99, s276_100, r276_0, E_276, ix_0, ix_1, ix_2, ix_3, ix_4, ix_5, ix_6, ix_7, ix_8, ix_9, ix_10, ix_14, ix_20, ix_24, ix_60, ix_96, ix_100, ix_120, ix_128, ix_2981, ix_3114, ix_4000]
  try rfl
theorem kt_61_25 : Rn 100 132 (204, [.ref 99, .int 0], [], k_276 L xs) = Rn 100 132 (204, [.ref 99, .int 1], [], k_277 L xs) := by
  have n276 := (G_276 L xs).N
  have s276_99 : mS (k_276 L xs) 99 = (9, 38) := (G_276 L xs).S 99 (by decide)
  have s276_103 : mS (k_276 L xs) 103 = (10, 4) := (G_276 L xs).S 103 (by decide)
  have r276_4 : mR (k_276 L xs) 99 4 = 103 := ((G_276 L xs).R 99 4).trans (by decide +kernel)
  have n277 := (G_277 L xs).N
  have s277_99 : mS (k_277 L xs) 99 = (9, 38) := (G_277 L xs).S 99 (by decide)
  have s277_103 : mS (k_277 L xs) 103 = (10, 4) := (G_277 L xs).S 103 (by decide)
  have r277_4 : mR (k_277 L xs) 99 4 = 103 := ((G_277 L xs).R 99 4).trans (by decide +kernel)
  refine (q_132_204 100 99 (0) (k_276 L xs)).trans ?_
  try simp only [n276, s276_99, s276_103, r276_4, n277, s277_99, s277_103, r277_4, E_277, ix_0, ix_1, ix_2, ix_3, ix_4, ix_5, ix_6, ix_7, ix_8, ix_9, ix_10, ix_14, ix_20, ix_24, ix_60, ix_96, ix_100, ix_120, ix_128, ix_2981, ix_3114, ix_4000]
  try rfl
theorem kt_61_26 : Rn 100 132 (204, [.ref 99, .int 1], [], k_277 L xs) = Rn 100 132 (204, [.ref 99, .int 2], [], k_278 L xs) := by
  have n277 := (G_277 L xs).N
  have s277_99 : mS (k_277 L xs) 99 = (9, 38) := (G_277 L xs).S 99 (by decide)
  have s277_103 : mS (k_277 L xs) 103 = (10, 4) := (G_277 L xs).S 103 (by decide)
  have r277_4 : mR (k_277 L xs) 99 4 = 103 := ((G_277 L xs).R 99 4).trans (by decide +kernel)
  have n278 := (G_278 L xs).N
  have s278_99 : mS (k_278 L xs) 99 = (9, 38) := (G_278 L xs).S 99 (by decide)
  have s278_103 : mS (k_278 L xs) 103 = (10, 4) := (G_278 L xs).S 103 (by decide)
  have r278_4 : mR (k_278 L xs) 99 4 = 103 := ((G_278 L xs).R 99 4).trans (by decide +kernel)
  refine (q_132_204 100 99 (1) (k_277 L xs)).trans ?_
  try simp only [n277, s277_99, s277_103, r277_4, n278, s278_99, s278_103, r278_4, E_278, ix_0, ix_1, ix_2, ix_3, ix_4, ix_5, ix_6, ix_7, ix_8, ix_9, ix_10, ix_14, ix_20, ix_24, ix_60, ix_96, ix_100, ix_120, ix_128, ix_2981, ix_3114, ix_4000]
  try rfl
theorem kt_61_27 : Rn 100 132 (204, [.ref 99, .int 2], [], k_278 L xs) = Rn 100 132 (204, [.ref 99, .int 3], [], k_279 L xs) := by
  have n278 := (G_278 L xs).N
  have s278_99 : mS (k_278 L xs) 99 = (9, 38) := (G_278 L xs).S 99 (by decide)
  have s278_103 : mS (k_278 L xs) 103 = (10, 4) := (G_278 L xs).S 103 (by decide)
  have r278_4 : mR (k_278 L xs) 99 4 = 103 := ((G_278 L xs).R 99 4).trans (by decide +kernel)
  have n279 := (G_279 L xs).N
  have s279_99 : mS (k_279 L xs) 99 = (9, 38) := (G_279 L xs).S 99 (by decide)
  have s279_103 : mS (k_279 L xs) 103 = (10, 4) := (G_279 L xs).S 103 (by decide)
  have r279_4 : mR (k_279 L xs) 99 4 = 103 := ((G_279 L xs).R 99 4).trans (by decide +kernel)
  refine (q_132_204 100 99 (2) (k_278 L xs)).trans ?_
  try simp only [n278, s278_99, s278_103, r278_4, n279, s279_99, s279_103, r279_4, E_279, ix_0, ix_1, ix_2, ix_3, ix_4, ix_5, ix_6, ix_7, ix_8, ix_9, ix_10, ix_14, ix_20, ix_24, ix_60, ix_96, ix_100, ix_120, ix_128, ix_2981, ix_3114, ix_4000]
  try rfl
theorem kt_61_28 : Rn 100 132 (204, [.ref 99, .int 3], [], k_279 L xs) = Rn 100 132 (204, [.ref 99, .int 4], [], k_280 L xs) := by
  have n279 := (G_279 L xs).N
  have s279_99 : mS (k_279 L xs) 99 = (9, 38) := (G_279 L xs).S 99 (by decide)
  have s279_103 : mS (k_279 L xs) 103 = (10, 4) := (G_279 L xs).S 103 (by decide)
  have r279_4 : mR (k_279 L xs) 99 4 = 103 := ((G_279 L xs).R 99 4).trans (by decide +kernel)
  have n280 := (G_280 L xs).N
  have s280_99 : mS (k_280 L xs) 99 = (9, 38) := (G_280 L xs).S 99 (by decide)
  have s280_103 : mS (k_280 L xs) 103 = (10, 4) := (G_280 L xs).S 103 (by decide)
  have r280_4 : mR (k_280 L xs) 99 4 = 103 := ((G_280 L xs).R 99 4).trans (by decide +kernel)
  refine (q_132_204 100 99 (3) (k_279 L xs)).trans ?_
  try simp only [n279, s279_99, s279_103, r279_4, n280, s280_99, s280_103, r280_4, E_280, ix_0, ix_1, ix_2, ix_3, ix_4, ix_5, ix_6, ix_7, ix_8, ix_9, ix_10, ix_14, ix_20, ix_24, ix_60, ix_96, ix_100, ix_120, ix_128, ix_2981, ix_3114, ix_4000]
  try rfl
theorem kt_61_29 : Rn 100 132 (204, [.ref 99, .int 4], [], k_280 L xs) = some (none, k_280 L xs) := by
  have n280 := (G_280 L xs).N
  have s280_99 : mS (k_280 L xs) 99 = (9, 38) := (G_280 L xs).S 99 (by decide)
  refine (q_132_204 100 99 (4) (k_280 L xs)).trans ?_
  try simp only [n280, s280_99, ix_0, ix_1, ix_2, ix_3, ix_4, ix_5, ix_6, ix_7, ix_8, ix_9, ix_10, ix_14, ix_20, ix_24, ix_60, ix_96, ix_100, ix_120, ix_128, ix_2981, ix_3114, ix_4000]
  try rfl
theorem kc_61 : cV 100 132 [.ref 99] (k_227 L xs) = some (k_280 L xs) := i_132 ((kt_61_0 L xs).trans ((kt_61_1 L xs).trans ((kt_61_2 L xs).trans ((kt_61_3 L xs).trans ((kt_61_4 L xs).trans ((kt_61_5 L xs).trans ((kt_61_6 L xs).trans ((kt_61_7 L xs).trans ((kt_61_8 L xs).trans ((kt_61_9 L xs).trans ((kt_61_10 L xs).trans ((kt_61_11 L xs).trans ((kt_61_12 L xs).trans ((kt_61_13 L xs).trans ((kt_61_14 L xs).trans ((kt_61_15 L xs).trans ((kt_61_16 L xs).trans ((kt_61_17 L xs).trans ((kt_61_18 L xs).trans ((kt_61_19 L xs).trans ((kt_61_20 L xs).trans ((kt_61_21 L xs).trans ((kt_61_22 L xs).trans ((kt_61_23 L xs).trans ((kt_61_24 L xs).trans ((kt_61_25 L xs).trans ((kt_61_26 L xs).trans ((kt_61_27 L xs).trans ((kt_61_28 L xs).trans (kt_61_29 L xs))))))))))))))))))))))))))))))
end MAKE
