/-! A WORK. -/
section WORK
variable {L d : Nat} {F F' : Nat → Nat → Int32} {J : Nat → Nat → Int64} {σ : aSg} {μ : aMem} {s s' xs : Nat → Int32} {A ln wt W : Nat → Nat}
def nO (s : Nat → Int32) : Nat := (s 0).toInt.toNat
def mO (s : Nat → Int32) : Nat := (s 1).toInt.toNat
def tO (s : Nat → Int32) : Nat := (s 2).toInt.toNat
theorem RK_o {n m t : Nat} (R : RK s n m t) : nO s = n ∧ mO s = m ∧ tO s = t := by
  obtain ⟨⟨a1, a2, -⟩, ⟨b1, b2, -⟩, c1, c2, -⟩ := R
  unfold nO mO tO
  rw [a2, b2, c2, nI_toInt (by omega), nI_toInt (by omega), nI_toInt (by omega)]
  exact ⟨rfl, rfl, rfl⟩
def stN (f : Nat → Bool) : Nat → Nat
  | 0 => 0
  | k + 1 => if f k = true then stN f k + 2 ^ k else stN f k
theorem stN_s (f : Nat → Bool) (k : Nat) : stN f (k + 1) = if f k = true then stN f k + 2 ^ k else stN f k := rfl
theorem stN_lt {f : Nat → Bool} : ∀ k, stN f k < 2 ^ k
  | 0 => Nat.zero_lt_one
  | k + 1 => by
    have : stN f k < 2 ^ k := stN_lt k
    have e : 2 ^ (k + 1) = 2 ^ k + 2 ^ k := by rw [Nat.pow_succ]; omega
    show (if _ then _ else _) < _
    rw [e]
    split
    · exact Nat.add_lt_add_right this _
    · exact Nat.lt_of_lt_of_le this (Nat.le_add_right _ _)
theorem add_bit {a p k : Nat} (h : p < k) : (a + 2 ^ k) / 2 ^ p % 2 = a / 2 ^ p % 2 := by
  have e : 2 ^ k = 2 ^ p * (2 * 2 ^ (k - p - 1)) := by
    rw [← Nat.pow_succ', ← Nat.pow_add]
    congr 1
    omega
  rw [e, Nat.add_mul_div_left _ _ (Nat.two_pow_pos p), Nat.add_mul_mod_self_left]
theorem stN_bit {f : Nat → Bool} {p : Nat} : ∀ k, p < k → (stN f k / 2 ^ p % 2 = 1 ↔ f p = true)
  | 0, h => absurd h (by omega)
  | k + 1, h => by
    have lt := stN_lt (f := f) k
    show (if f k = true then stN f k + 2 ^ k else stN f k) / 2 ^ p % 2 = 1 ↔ _
    by_cases e : p = k
    · subst e
      by_cases c : f p = true
      · rw [if_pos c, Nat.add_div_right _ (Nat.two_pow_pos p), Nat.div_eq_of_lt lt]
        exact ⟨fun _ => c, fun _ => rfl⟩
      · rw [if_neg c, Nat.div_eq_of_lt lt]
        exact ⟨fun q => absurd q (by decide), fun q => absurd q c⟩
    · have ih := stN_bit (f := f) k (show p < k by omega)
      split
      · rw [add_bit (by omega)]; exact ih
      · exact ih
def zs (s : Nat → Int32) : Nat → Int32
  | 0 => s 3
  | k + 1 => drZ (zs s k)
theorem zs_s (s : Nat → Int32) (k : Nat) : zs s (k + 1) = drZ (zs s k) := rfl
def gN (s : Nat → Int32) (k : Nat) : Nat := (s (4 + 5 * k + 1)).toInt.toNat
def lgB (s : Nat → Int32) (k : Nat) : Bool := !decide (s (4 + 5 * k + 2) ≤ drV (zs s k) - drV (zs s k) / 10 * 10)
def lW (s : Nat → Int32) (k : Nat) : Nat := if lgB s k = true then 2 * gN s k + 1 else gN s k
theorem gN_eq {n m t k : Nat} (R : RK s n m t) (hk : k < n) : s (4 + 5 * k + 1) = nI (gN s k) ∧ gN s k ≤ 99 := by
  have g := (R.1.2.2 k hk).2.1
  refine ⟨nI_fo g.1, ?_⟩
  have : (s (4 + 5 * k + 1)).toInt ≤ 99 := Int32.le_iff_toInt_le.mp g.2
  unfold gN
  omega
def mn9 (a : Nat) : Nat := if a < 9999 then a else 9999
theorem mn9_le (a : Nat) : mn9 a ≤ 9999 := by unfold mn9; split <;> omega
theorem mn9_c {a : Nat} (h : a < 2 ^ 31) : (if nI a < (9999 : Int32) then nI a else 9999) = nI (mn9 a) := by
  unfold mn9
  by_cases c : a < 9999
  · rw [if_pos (show nI a < (9999 : Int32) from ylt (b := 9999) c (by decide)), if_pos c]
  · rw [if_neg (show ¬ nI a < (9999 : Int32) from nlt (b := 9999) (by omega) (by omega)), if_neg c]; rfl
theorem mn9_m {a : Nat} (h : a < 2 ^ 31) : wiM (nI a) 9999 = nI (mn9 a) := by
  rw [← mn9_c h, min_wi (yle (a := 0) (by omega) h)]
def sdN (s : Nat → Int32) : Nat := mn9 (teN (aN s) (sN s (mO s) (tO s)) (wN s (tO s)) (nO s))
def wsN (s : Nat → Int32) : Nat := mn9 (teN (aN s) (lW s) (wN s (tO s)) (nO s))
def wkR (s : Nat → Int32) (x : Int32) : Nat → Int32 := wrS (up1 s 3 (zs s (nO s))) (mO s) x (nI (sdN s)) (nI (wsN s))
theorem aN_z (z : Int32) : aN (up1 s 3 z) = aN s := by
  funext k
  unfold aN
  rw [up1_n _ _ (by omega)]
theorem LW_w {n m t : Nat} (R : RK s n m t) : LW (lW s) (wN s t) n := fun k hk => ⟨by
  have := (gN_eq R hk).2
  unfold lW
  split <;> omega, (wN_eq s t k).2⟩
theorem c_workL (h : Lay L σ) {p n m t : Nat} (hp : PL σ p) (hp2 : p + 17 < 55) (R : RK s n m t) : ∀ (r k : Nat) (F : Nat → Nat → Int32) (x : Int32) (w : Value), PR F p (up1 s 3 (zs s k)) n → BR F p (up1 s 3 (zs s k)) m → TR F σ p (up1 s 3 (zs s k)) t → F p 6 = zs s k → (∀ q, q < k → F 56 q = nI (lW s q)) → k + r = n → ∃ F' w', Rn (d + 1) 65 (17, [.ref 55, .ref p, .int x, .int (nI k), w], [], (F, J, σ)) = Rn (d + 1) 65 (17, [.ref 55, .ref p, .int x, .int (nI n), w'], [], (F', J, σ)) ∧ (∀ b, b ≠ p → b ≠ 56 → F' b = F b) ∧ PR F' p (up1 s 3 (zs s n)) n ∧ BR F' p (up1 s 3 (zs s n)) m ∧ TR F' σ p (up1 s 3 (zs s n)) t ∧ F' p 6 = zs s n ∧ ∀ q, q < n → F' 56 q = nI (lW s q)
  | 0, k, F, x, w, P, B, T, z, hs, e => by
    have ek : k = n := by omega
    subst ek
    exact ⟨F, w, rfl, fun b _ _ => rfl, P, B, T, z, hs⟩
  | r + 1, k, F, x, w, P, B, T, z, hs, e => by
    have n10 := P.1
    have hk : k < n := by omega
    have t5 : True ∧ 55 < 999999 := ⟨trivial, by decide⟩
    have tp : True ∧ p < 999999 := ⟨trivial, by omega⟩
    have tk : True ∧ p + 8 + k < 999999 := ⟨trivial, by omega⟩
    have ib : inb (nI k) 10 := inb_nI (by omega) (by decide)
    have ib' : True ∧ inb (nI k) 10 := ⟨trivial, ib⟩
    obtain ⟨P1, B1, T1, z1⟩ := RW_z (by omega) P B T (drZ (zs s k))
    rw [up1_up1] at P1 B1 T1
    obtain ⟨G, eG⟩ : ∃ G, G = up1 F p (up1 (F p) 6 (drZ (zs s k))) := ⟨_, rfl⟩
    rw [← eG] at P1 B1 T1
    obtain ⟨g1, g2⟩ := gN_eq R hk
    have f1 : G (p + 8 + k) 1 = nI (gN s k) := (P1.2.2.2.1 k hk 1 (by decide)).trans (by rw [up1_n _ _ (by omega)]; exact g1)
    have f2 : G (p + 8 + k) 2 = s (4 + 5 * k + 2) := (P1.2.2.2.1 k hk 2 (by decide)).trans (up1_n _ _ (by omega))
    have yk : σ.2.1 (p + 8 + k) = (1, 5) := hp.yk (by omega)
    have c9 : cI d 9 [.ref (p + 8 + k)] (G, J, σ) = some (nI (gN s k), (G, J, σ)) := by
      refine i_9 ?_
      rw [q_9_0]
      simp only [mS, mF, yk, if_true, f1]
    have c10 : cI d 10 [.ref (p + 8 + k)] (G, J, σ) = some (nI (2 * gN s k + 1), (G, J, σ)) := by
      refine i_10 ?_
      rw [q_10_0]
      simp only [mS, mF, yk, if_true, f1, show (2 : Int32) * nI (gN s k) = nI (2 * gN s k) from pk_mul 2 _, nI_s]
    obtain ⟨G2, eG2⟩ : ∃ G2, G2 = up1 G 56 (up1 (G 56) k (nI (lW s k))) := ⟨_, rfl⟩
    have o : ∀ b, b ≠ p → b ≠ 56 → G2 b = F b := fun b h1 h2 => by rw [eG2, up1_ne _ _ h2, eG, up1_ne _ _ h1]
    have oG : ∀ b, b ≠ 56 → G2 b = G b := fun b h2 => by rw [eG2, up1_ne _ _ h2]
    have step : Rn (d + 1) 65 (17, [.ref 55, .ref p, .int x, .int (nI k), w], [], (F, J, σ)) = Rn (d + 1) 65 (17, [.ref 55, .ref p, .int x, .int (nI (k + 1)), .ref (p + 8 + k)], [], (G2, J, σ)) := by
      rw [q_65_17]
      have cd := c_draw (d := d) (F := F) (J := J) hp
      rw [z, ← eG] at cd
      simp only [mS, mR, mF, hp.y0, hp.z0, hp.y1, P.2.2.1, if_true, Y_55 h, if_pos tp, ix_nI (show k < 2 ^ 31 by omega), hp.zk (show k < 10 by omega), cd, Option.bind_some, yk, f2, if_pos tk, c9, c10, Z_55_0 h, Y_56 h, setF_up, nI_s]
      rw [if_neg (nle hk (by omega)), if_pos ⟨by decide, by decide, ib⟩, if_pos ib', if_pos ib', eG2]
      unfold lW lgB
      by_cases c : s (4 + 5 * k + 2) ≤ drV (zs s k) - drV (zs s k) / 10 * 10
      · rw [if_pos c, if_neg (by simp [c])]
      · rw [if_neg c, if_pos (by simp [c])]
    obtain ⟨F', w', k1, k2, k3⟩ := c_workL h hp hp2 R r (k + 1) G2 x (.ref (p + 8 + k)) (PR_cg (fun a h1 h2 => oG a (by omega)) (fun j _ => rfl) P1) (BR_cg (fun a h1 h2 => oG a (by omega)) (fun j _ => rfl) B1) (TR_cg (fun a h1 h2 => oG a (by omega)) (fun a h1 h2 => oG a (by omega)) (fun j _ => rfl) T1) (by rw [oG p (by omega), eG, up1_s, up1_s, zs_s]) (fun q hq => by
      rw [eG2, up1_s]
      by_cases eq : q = k
      · rw [eq, up1_s]
      · rw [up1_n _ _ eq, eG, up1_ne _ _ (by omega)]; exact hs q (by omega)) (by omega)
    exact ⟨F', w', step.trans k1, fun b h1 h2 => by rw [k2 b h1 h2, o b h1 h2], k3⟩
end WORK
