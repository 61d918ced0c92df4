/-! SUMS OVER ALL ROWS OF SHORT AND LONG ONES; EUCLID. -/
section SUMS
variable {L d : Nat} {F F' : Nat → Nat → Int32} {J : Nat → Nat → Int64} {σ : aSg} {μ : aMem} {A wt g tl : Nat → Nat} {φ ψ : Nat → Nat}
def sR (φ : Nat → Nat) : Nat → Nat
  | 0 => 0
  | j + 1 => sR φ j + φ j
def sumC (φ : Nat → Nat) : Nat → Nat → Nat → Nat
  | 0, _, P => φ P
  | r + 1, k, P => sumC φ r (k + 1) P + sumC φ r (k + 1) (P + 2 ^ k)
theorem sR_cg : ∀ n, (∀ j, j < n → φ j = ψ j) → sR φ n = sR ψ n
  | 0, _ => rfl
  | n + 1, h => by
    show sR φ n + φ n = sR ψ n + ψ n
    rw [sR_cg n (fun j hj => h j (by omega)), h n (by omega)]
theorem sR_add : ∀ n, sR (fun j => φ j + ψ j) n = sR φ n + sR ψ n
  | 0 => rfl
  | n + 1 => by
    show sR (fun j => φ j + ψ j) n + (φ n + ψ n) = sR φ n + φ n + (sR ψ n + ψ n)
    rw [sR_add n]
    omega
theorem sR_even : ∀ m, sR φ (2 * m) = sR (fun T => φ (2 * T) + φ (2 * T + 1)) m
  | 0 => rfl
  | m + 1 => by
    show sR φ (2 * m + 1 + 1) = sR (fun T => φ (2 * T) + φ (2 * T + 1)) m + (φ (2 * m) + φ (2 * m + 1))
    show sR φ (2 * m) + φ (2 * m) + φ (2 * m + 1) = _
    rw [sR_even m]
    omega
theorem sumC_eq : ∀ r k P, sumC φ r k P = sR (fun T => φ (P + 2 ^ k * T)) (2 ^ r)
  | 0, k, P => by
    show φ P = 0 + φ (P + 2 ^ k * 0)
    rw [Nat.mul_zero, Nat.add_zero, Nat.zero_add]
  | r + 1, k, P => by
    show sumC φ r (k + 1) P + sumC φ r (k + 1) (P + 2 ^ k) = _
    rw [sumC_eq r (k + 1) P, sumC_eq r (k + 1) (P + 2 ^ k), ← sR_add, show 2 ^ (r + 1) = 2 * 2 ^ r from by rw [Nat.pow_succ, Nat.mul_comm], sR_even]
    refine sR_cg _ (fun T _ => ?_)
    have e1 : P + 2 ^ (k + 1) * T = P + 2 ^ k * (2 * T) := by rw [Nat.pow_succ, Nat.mul_assoc]
    have e2 : P + 2 ^ k + 2 ^ (k + 1) * T = P + 2 ^ k * (2 * T + 1) := by rw [Nat.pow_succ, Nat.mul_assoc, Nat.mul_add, Nat.mul_one]; omega
    rw [e1, e2]
theorem sumC_0 (n : Nat) : sumC φ n 0 0 = sR φ (2 ^ n) := by
  rw [sumC_eq]
  refine sR_cg _ (fun T _ => ?_)
  rw [Nat.zero_add, Nat.pow_zero, Nat.one_mul]
theorem sR_0 : ∀ n, (∀ j, j < n → φ j = 0) → sR φ n = 0
  | 0, _ => rfl
  | n + 1, h => by
    show sR φ n + φ n = 0
    rw [sR_0 n (fun j hj => h j (by omega)), h n (by omega)]
/-- sums may change their places -/
theorem sR_sw {f : Nat → Nat → Nat} : ∀ m n, sR (fun i => sR (f i) n) m = sR (fun j => sR (fun i => f i j) m) n
  | 0, n => by
    exact (sR_0 n (fun j _ => rfl)).symm
  | m + 1, n => by
    show sR (fun i => sR (f i) n) m + sR (f m) n = sR (fun j => sR (fun i => f i j) m + f m j) n
    rw [sR_sw m n, ← sR_add]
theorem sR_mul (c : Nat) : ∀ n, sR (fun j => φ j * c) n = sR φ n * c
  | 0 => by show 0 = 0 * c; rw [Nat.zero_mul]
  | n + 1 => by
    show sR (fun j => φ j * c) n + φ n * c = (sR φ n + φ n) * c
    rw [sR_mul c n, Nat.add_mul]
theorem sR_one {e w : Nat} : ∀ m, sR (fun i => if e = i then w else 0) m = if e < m then w else 0
  | 0 => by rw [if_neg (by omega)]; rfl
  | m + 1 => by
    show sR (fun i => if e = i then w else 0) m + (if e = m then w else 0) = _
    rw [sR_one m]
    by_cases c1 : e < m
    · rw [if_pos c1, if_neg (by omega), if_pos (by omega), Nat.add_zero]
    · rw [if_neg c1]
      by_cases c2 : e = m
      · rw [if_pos c2, if_pos (by omega), Nat.zero_add]
      · rw [if_neg c2, if_neg (by omega)]
theorem bit_lo {P k : Nat} (h : P < 2 ^ k) : P / 2 ^ k % 2 = 0 := by rw [Nat.div_eq_of_lt h]
theorem bit_hi {P k : Nat} (h : P < 2 ^ k) : (P + 2 ^ k) / 2 ^ k % 2 = 1 := by rw [Nat.add_div_right _ (Nat.two_pow_pos k), Nat.div_eq_of_lt h]
def lS (g : Nat → Nat) (S k : Nat) : Nat := if S / 2 ^ k % 2 = 1 then 2 * g k + 1 else g k
def tw (tl : Nat → Nat) (S : Nat) : Nat → Nat
  | 0 => 1
  | k + 1 => tw tl S k * (if S / 2 ^ k % 2 = 1 then tl k else 10 - tl k)
theorem tw_s (S k : Nat) : tw tl S (k + 1) = tw tl S k * (if S / 2 ^ k % 2 = 1 then tl k else 10 - tl k) := rfl
theorem tw_hi {P j : Nat} : ∀ k, k ≤ j → tw tl (P + 2 ^ j) k = tw tl P k
  | 0, _ => rfl
  | k + 1, h => by
    rw [tw_s, tw_s, tw_hi k (by omega), add_bit (by omega)]
theorem lS_hi {P j q : Nat} (h : q < j) : lS g (P + 2 ^ j) q = lS g P q := by
  unfold lS
  rw [add_bit h]
theorem enN_cg {ln ln' : Nat → Nat} : ∀ k, (∀ q, q ≤ k → ln q = ln' q) → enN A ln wt k = enN A ln' wt k := by
  intro k
  induction k using Nat.strongRecOn with
  | ind k ih =>
    intro h
    show bgN A ln wt k + ln k = bgN A ln' wt k + ln' k
    rw [bgN_eq, bgN_eq, h k (Nat.le_refl _), bgS_cg k (fun q hq => ih q hq (fun j hj => h j (by omega)))]
/-- a row whose beginning weighs nothing weighs nothing -/
theorem sumC_no {f : Nat → Nat} (n : Nat) : ∀ r k P, k + r = n → P < 2 ^ k → tw tl P k = 0 → sumC (fun S => if f S = 1 then tw tl S n else 0) r k P = 0
  | 0, k, P, e, hP, h0 => by
    show (if f P = 1 then tw tl P n else 0) = 0
    rw [show n = k by omega, h0]
    exact ite_self _
  | r + 1, k, P, e, hP, h0 => by
    have hp : 2 ^ (k + 1) = 2 ^ k + 2 ^ k := by rw [Nat.pow_succ]; omega
    show sumC _ r (k + 1) P + sumC _ r (k + 1) (P + 2 ^ k) = 0
    rw [sumC_no n r (k + 1) P (by omega) (by omega) (by rw [tw_s, h0, Nat.zero_mul]), sumC_no n r (k + 1) (P + 2 ^ k) (by omega) (by omega) (by rw [tw_s, tw_hi k (Nat.le_refl _), h0, Nat.zero_mul])]
/-- all rows together -/
theorem sumC_all (ht : ∀ k, tl k ≤ 10) (n : Nat) : ∀ r k P, k + r = n → P < 2 ^ k → sumC (fun S => tw tl S n) r k P = tw tl P k * 10 ^ r
  | 0, k, P, e, hP => by
    show tw tl P n = _
    rw [show n = k by omega, Nat.pow_zero, Nat.mul_one]
  | r + 1, k, P, e, hP => by
    have hp : 2 ^ (k + 1) = 2 ^ k + 2 ^ k := by rw [Nat.pow_succ]; omega
    show sumC _ r (k + 1) P + sumC _ r (k + 1) (P + 2 ^ k) = _
    rw [sumC_all ht n r (k + 1) P (by omega) (by omega), sumC_all ht n r (k + 1) (P + 2 ^ k) (by omega) (by omega), tw_s, tw_s, tw_hi k (Nat.le_refl _), bit_hi hP, bit_lo hP, if_neg (by decide), if_pos rfl, ← Nat.add_mul, ← Nat.mul_add, show 10 - tl k + tl k = 10 by have := ht k; omega, Nat.mul_assoc, ← Nat.pow_succ']
/-! longs -/
theorem nI_lN {a : Nat} (h : a < 2 ^ 31) : (nI a).toInt64 = lN a := by
  apply Int64.toInt_inj.mp
  rw [Int32.toInt_toInt64, nI_toInt h, pk_lT (by omega)]
theorem lg_eq0 (x y : Int64) : lg_cmp x y = 0 ↔ x = y := by
  unfold lg_cmp
  by_cases h1 : x > y
  · rw [if_pos h1]
    exact ⟨fun h => absurd h (by decide), fun h => by rw [h] at h1; exact absurd h1 (Int64.lt_irrefl)⟩
  · rw [if_neg h1]
    by_cases h2 : x = y
    · rw [if_pos h2]; exact ⟨fun _ => h2, fun _ => rfl⟩
    · rw [if_neg h2]; exact ⟨fun h => absurd h (by decide), fun h => absurd h h2⟩
/-- Euclid's steps of x and y -/
def euc : Nat → Nat → Nat → Nat
  | 0, x, _ => x
  | f + 1, x, y => if y = 0 then x else euc f y (x % y)
theorem euc_s (f x y : Nat) : euc (f + 1) x y = if y = 0 then x else euc f y (x % y) := rfl
/-- two ways to have them all -/
theorem mod_half {y z : Nat} (hz : 0 < z) (h : z < y) (m : Nat) (hy : y < 2 ^ (m + 1)) : y % z < 2 ^ m := by
  have h1 := Nat.mod_lt y hz
  have h2 : y % z + z ≤ y := by
    have e := Nat.mod_add_div y z
    have : 1 ≤ y / z := (Nat.le_div_iff_mul_le hz).mpr (by omega)
    have : z * 1 ≤ z * (y / z) := Nat.mul_le_mul_left z this
    omega
  have e : 2 ^ (m + 1) = 2 ^ m + 2 ^ m := by rw [Nat.pow_succ]; omega
  omega
theorem euc_ex : ∀ m x y, y < 2 ^ m → ∃ G f, f ≤ 2 * m ∧ (0 < x → 0 < G) ∧ ∀ f', f ≤ f' → euc (f' + 1) x y = G
  | 0, x, y, h => ⟨x, 0, Nat.le_refl _, fun q => q, fun f' _ => by rw [euc_s, if_pos (by omega)]⟩
  | m + 1, x, y, h => by
    by_cases y0 : y = 0
    · exact ⟨x, 0, by omega, fun q => q, fun f' _ => by rw [euc_s, if_pos y0]⟩
    · have hz := Nat.mod_lt x (Nat.pos_of_ne_zero y0)
      by_cases z0 : x % y = 0
      · refine ⟨y, 1, by omega, fun _ => Nat.pos_of_ne_zero y0, fun f' hf => ?_⟩
        obtain ⟨g', rfl⟩ : ∃ g', f' = g' + 1 := ⟨f' - 1, by omega⟩
        rw [euc_s, if_neg y0, euc_s, if_pos z0]
      · obtain ⟨G, f, h1, h2, h3⟩ := euc_ex m (x % y) (y % (x % y)) (mod_half (Nat.pos_of_ne_zero z0) hz m h)
        refine ⟨G, f + 2, by omega, fun _ => h2 (Nat.pos_of_ne_zero z0), fun f' hf => ?_⟩
        obtain ⟨g', rfl⟩ : ∃ g', f' = g' + 1 + 1 := ⟨f' - 2, by omega⟩
        rw [euc_s, if_neg y0, euc_s, if_neg z0]
        exact h3 g' (by omega)
theorem c_euc {j0 j2 : Int64} : ∀ (f i x y : Nat) (w9 w10 : Value), x < 2 ^ 63 → y < 2 ^ 63 → i + f = 100 → Rn d 131 (9, [.long j0, un, .long j2, un, .long (lN x), un, .long (lN y), un, .int (nI i), w9, w10], [], μ) = some (some (.long (lN (euc f x y))), μ)
  | 0, i, x, y, w9, w10, hx, hy, e => by
    rw [q_131_9, show i = 100 by omega, if_pos (by decide)]
    rfl
  | f + 1, i, x, y, w9, w10, hx, hy, e => by
    rw [q_131_9, if_neg (show ¬ (100 : Int32) ≤ nI i from nle (a := 100) (by omega) (by decide)), euc_s]
    have z0 : (lg_cmp (lN y) 0 = 0) ↔ y = 0 := by rw [lg_eq0]; exact pk_lEQ (b := 0) hy (by decide)
    have y1 : (lN y = (0 : Int64)) ↔ y = 0 := pk_lEQ (b := 0) hy (by decide)
    by_cases c : y = 0
    · rw [if_pos (z0.mpr c), if_pos c]
    · rw [if_neg (fun q => c (z0.mp q)), if_pos (fun q => c (y1.mp q)), if_neg c, pk_lRem hx (Nat.pos_of_ne_zero c) hy, nI_s]
      have := Nat.mod_lt x (Nat.pos_of_ne_zero c)
      exact c_euc f (i + 1) y (x % y) _ _ hy (by omega) (by omega)
theorem c_reduced {a b : Nat} (ha : a < 2 ^ 63) (hb0 : 0 < b) (hb : b < 2 ^ 34) {G : Nat} (hG : euc 100 a b = G) (hGp : 0 < G) (hG6 : G < 2 ^ 63) (x : Int32) : cJ (d + 1) 130 [.long (lN a), .long (lN b), .int x] μ = some (lN ((if x = 0 then a else b) / G), μ) := by
  have c1 : cJ d 131 [.long (lN a), .long (lN b)] μ = some (lN G, μ) := by
    refine i_131 ?_
    rw [q_131_0]
    rw [← hG]
    exact c_euc 100 0 a b un un ha (by omega) rfl
  refine i_130 ?_
  rw [q_130_0, c1, Option.bind_some]
  have g0 : 0 < lg_cmp (lN G) 0 := (lg_gt _ _).mpr ((pk_lLT (a := 0) (by decide) hG6).mpr hGp)
  have g1 : ¬ lN G = (0 : Int64) := fun q => by have := (pk_lEQ (b := 0) hG6 (by decide)).mp q; omega
  rw [if_pos g0]
  by_cases c : x = 0
  · rw [if_pos c, if_pos c, if_pos g1, pk_lDiv ha hGp hG6]
  · rw [if_neg c, if_neg c, if_pos g1, pk_lDiv (by omega) hGp hG6]
theorem m_euc {a b G : Nat} (ha : a < 2 ^ 63) (hb : b < 2 ^ 63) (hGp : 0 < G) (hG6 : G < 2 ^ 63) (x : Int32) : ∀ (f u v : Nat) (w9 w10 : Value), u < 2 ^ 63 → v < 2 ^ 63 → (∀ f', f ≤ f' → euc (f' + 1) u v = G) → Rn d 182 (6, [.long (lN a), un, .long (lN b), un, .int x, .long (lN u), un, .long (lN v), un, w9, w10], [], μ) = some (some (.long (lN ((if x = 0 then a else b) / G))), μ) := by
  have fin : ∀ (u v : Nat) (w9 w10 : Value), u < 2 ^ 63 → v = 0 → u = G → Rn d 182 (6, [.long (lN a), un, .long (lN b), un, .int x, .long (lN u), un, .long (lN v), un, w9, w10], [], μ) = some (some (.long (lN ((if x = 0 then a else b) / G))), μ) := by
    intro u v w9 w10 hu hv e
    subst e
    have g1 : ¬ lN u = (0 : Int64) := fun q => by have := (pk_lEQ (b := 0) hG6 (by decide)).mp q; omega
    rw [q_182_6, hv, if_pos ((lg_le _ _).mpr (by decide))]
    by_cases c : x = 0
    · rw [if_pos c, if_pos c, if_pos g1, pk_lDiv ha hGp hG6]
    · rw [if_neg c, if_neg c, if_pos g1, pk_lDiv hb hGp hG6]
  intro f
  induction f with
  | zero =>
    intro u v w9 w10 hu hv hf
    have h0 := hf 0 (Nat.le_refl _)
    have h1 := hf 1 (by omega)
    rw [euc_s] at h0 h1
    by_cases c : v = 0
    · rw [if_pos c] at h0
      exact fin u v w9 w10 hu c h0
    · rw [if_neg c] at h0 h1
      have h0' : v = G := h0
      have z := Nat.mod_lt u (Nat.pos_of_ne_zero c)
      rw [euc_s] at h1
      have z0 : u % v = 0 := by
        by_cases cz : u % v = 0
        · exact cz
        · rw [if_neg cz] at h1
          have : u % v = G := h1
          omega
      have y1 : ¬ lg_cmp (lN v) 0 ≤ 0 := fun q => by
        have := (pk_lLE (b := 0) hv (by decide)).mp ((lg_le _ _).mp q)
        omega
      have y2 : ¬ lN v = (0 : Int64) := fun q => c ((pk_lEQ (b := 0) hv (by decide)).mp q)
      rw [q_182_6, if_neg y1, if_pos y2, pk_lRem hu (Nat.pos_of_ne_zero c) hv]
      exact fin v (u % v) _ _ hv z0 h0'
  | succ f ih =>
    intro u v w9 w10 hu hv hf
    by_cases c : v = 0
    · have h0 := hf (f + 1) (Nat.le_refl _)
      rw [euc_s, if_pos c] at h0
      exact fin u v w9 w10 hu c h0
    · have z := Nat.mod_lt u (Nat.pos_of_ne_zero c)
      have y1 : ¬ lg_cmp (lN v) 0 ≤ 0 := fun q => by
        have := (pk_lLE (b := 0) hv (by decide)).mp ((lg_le _ _).mp q)
        omega
      have y2 : ¬ lN v = (0 : Int64) := fun q => c ((pk_lEQ (b := 0) hv (by decide)).mp q)
      rw [q_182_6, if_neg y1, if_pos y2, pk_lRem hu (Nat.pos_of_ne_zero c) hv]
      refine ih v (u % v) _ _ hv (by omega) (fun f' hf' => ?_)
      have := hf (f' + 1) (by omega)
      rw [euc_s, if_neg c] at this
      exact this
/-- both ways to the lowest terms -/
theorem both_low {a b : Nat} (ha : a < 2 ^ 63) (hb0 : 0 < b) (hb : b < 2 ^ 34) (x : Int32) : ∃ r : Int64, (∀ (d : Nat) (μ : aMem), cJ (d + 1) 130 [.long (lN a), .long (lN b), .int x] μ = some (r, μ)) ∧ ∀ (d : Nat) (μ : aMem), cJ d 182 [.long (lN a), .long (lN b), .int x] μ = some (r, μ) := by
  have hz := Nat.mod_lt a hb0
  obtain ⟨G, f, h1, h2, h3⟩ := euc_ex 34 b (a % b) (by omega)
  have h3' : ∀ f', f + 1 ≤ f' → euc (f' + 1) a b = G := fun f' hf => by
    obtain ⟨g', rfl⟩ : ∃ g', f' = g' + 1 := ⟨f' - 1, by omega⟩
    rw [euc_s, if_neg (by omega)]
    exact h3 g' (by omega)
  have hGp := h2 hb0
  have hle : ∀ f x y, 0 < x → euc f x y ≤ x ∨ euc f x y ≤ y := by
    intro f
    induction f with
    | zero => intro x y _; exact Or.inl (Nat.le_refl _)
    | succ f ih =>
      intro x y hx
      rw [euc_s]
      by_cases c : y = 0
      · rw [if_pos c]; exact Or.inl (Nat.le_refl _)
      · rw [if_neg c]
        have := Nat.mod_lt x (Nat.pos_of_ne_zero c)
        rcases ih y (x % y) (Nat.pos_of_ne_zero c) with q | q
        · exact Or.inr q
        · right; omega
  have hG6 : G < 2 ^ 63 := by
    have e := h3 f (Nat.le_refl _)
    rcases hle (f + 1) b (a % b) hb0 with q | q
    · rw [e] at q; omega
    · rw [e] at q; omega
  refine ⟨lN ((if x = 0 then a else b) / G), fun d μ => c_reduced ha hb0 hb (h3' 99 (by omega)) hGp hG6 x, fun d μ => ?_⟩
  refine i_182 ?_
  rw [q_182_0]
  exact m_euc ha (by omega) hGp hG6 x (f + 1) a b un un ha (by omega) h3'
end SUMS
