/-! A WORK, the model's rows. -/
section WORKC
variable {L d : Nat} {F F' : Nat → Nat → Int32} {J : Nat → Nat → Int64} {σ : aSg} {μ : aMem} {s s' xs : Nat → Int32} {A ln wt W : Nat → Nat}

theorem m_layLong (h : Lay L σ) {n m t S : Nat} (hS : S < 2 ^ 31) : ∀ (r k : Nat) (F : Nat → Nat → Int32), RK (F 100) n m t → (∀ q, q < k → F 111 q = nI (if S / 2 ^ q % 2 = 1 then 2 * gN (F 100) q + 1 else gN (F 100) q)) → k + r = n → ∃ F', Rn (d + 1) 178 (2, [.ref 99, .int (nI S), .int (nI k)], [], (F, J, σ)) = some (none, (F', J, σ)) ∧ (∀ b, b ≠ 111 → F' b = F b) ∧ ∀ q, q < n → F' 111 q = nI (if S / 2 ^ q % 2 = 1 then 2 * gN (F 100) q + 1 else gN (F 100) q)
  | 0, k, F, R, hs, e => by
    have ek : k = n := by omega
    subst ek
    refine ⟨F, ?_, fun b _ => rfl, hs⟩
    rw [q_178_2]
    simp only [mS, mR, Y_99 h, Z_99_0 h, if_true, show rdI (F, J, σ) 100 0 = some (F 100 0) from rd_100 (i := 0) h (by decide), R.1.2.1, Option.bind_some]
    rw [if_pos (Int32.le_refl _)]
  | r + 1, k, F, R, hs, e => by
    have n10 := R.1.1
    have hk : k < n := by omega
    have t9 : True ∧ 99 < 999999 := ⟨trivial, by decide⟩
    have ib : True ∧ inb (nI k) 10 := ⟨trivial, inb_nI (by omega) (by decide)⟩
    have o1 : cI d 139 [.ref 99, .int (nI k), .int 1] (F, J, σ) = some (nI (gN (F 100) k), (F, J, σ)) := by rw [← (gN_eq R hk).1]; exact m_of (w := 1) h (by omega) (by decide)
    obtain ⟨G, eG⟩ : ∃ G, G = up1 F 111 (up1 (F 111) k (nI (if S / 2 ^ k % 2 = 1 then 2 * gN (F 100) k + 1 else gN (F 100) k))) := ⟨_, rfl⟩
    have o : ∀ b, b ≠ 111 → G b = F b := fun b hb => by rw [eG, up1_ne _ _ hb]
    have ih := m_layLong h hS r (k + 1) G (by rw [o 100 (by decide)]; exact R) (fun q hq => by
      rw [o 100 (by decide), eG, up1_s]
      by_cases eq : q = k
      · rw [eq, up1_s]
      · rw [up1_n _ _ eq]; exact hs q (by omega)) (by omega)
    rw [o 100 (by decide)] at ih
    obtain ⟨F', g1, g2, g3⟩ := ih
    refine ⟨F', ?_, fun b hb => by rw [g2 b hb, o b hb], g3⟩
    rw [q_178_2]
    simp only [mS, mR, Y_99 h, Z_99_0 h, Z_99_12 h, Y_111 h, if_true, if_pos t9, show rdI (F, J, σ) 100 0 = some (F 100 0) from rd_100 (i := 0) h (by decide), R.1.2.1, Option.bind_some, bitI hS (show k < 32 by omega), o1, setF_up, ix_nI (show k < 2 ^ 31 by omega), if_pos ib, nI_s, show (2 : Int32) * nI (gN (F 100) k) = nI (2 * gN (F 100) k) from pk_mul 2 _]
    rw [if_neg (nle hk (by omega))]
    by_cases c : S / 2 ^ k % 2 = 1
    · rw [if_pos (bit01.2.mpr c)]
      rw [eG, if_pos c] at g1
      exact g1
    · rw [if_neg (fun q => c (bit01.2.mp q))]
      rw [eG, if_neg c] at g1
      exact g1
theorem m_workA (h : Lay L σ) {n m t : Nat} (R : RK s n m t) (x y : Int32) {zz vv : Nat → Int32} {B : Nat → Bool} (hz : ∀ k, drZ (zz k) = zz (k + 1)) (hv : ∀ k, drV (zz k) = vv k) (hB : ∀ k, B k = true ↔ ¬ s (4 + 5 * k + 2) ≤ vv k - vv k / 10 * 10) : ∀ (r k : Nat) (F : Nat → Nat → Int32), F 100 = up1 s 3 (zz k) → k + r = n → ∃ F', Rn (d + 1) 187 (16, [.ref 99, .int x, .int y, .int (nI (stN B k)), .int (nI k)], [], (F, J, σ)) = Rn (d + 1) 187 (16, [.ref 99, .int x, .int y, .int (nI (stN B n)), .int (nI n)], [], (F', J, σ)) ∧ (∀ b, b ≠ 100 → F' b = F b) ∧ F' 100 = up1 s 3 (zz n) := by
  intro r
  induction r with
  | zero =>
    intro k F hF e
    have ek : k = n := by omega
    subst ek
    exact ⟨F, rfl, fun b _ => rfl, hF⟩
  | succ r ih =>
    intro k F hF e
    have n10 := R.1.1
    have hk : k < n := by omega
    have t9 : True ∧ 99 < 999999 := ⟨trivial, by decide⟩
    have z : F 100 3 = zz k := by rw [hF, up1_s]
    have md := m_drawn (d := d) (F := F) (J := J) h
    rw [z, hz, hv] at md
    obtain ⟨G, eG⟩ : ∃ G, G = up1 F 100 (up1 (F 100) 3 (zz (k + 1))) := ⟨_, rfl⟩
    rw [← eG] at md
    have g100 : G 100 = up1 s 3 (zz (k + 1)) := by rw [eG, up1_s, hF, up1_up1]
    have o2 : cI d 139 [.ref 99, .int (nI k), .int 2] (G, J, σ) = some (s (4 + 5 * k + 2), (G, J, σ)) := by
      have := m_of (d := d) (F := G) (J := J) (w := 2) h (show k < 10 by omega) (by decide)
      rw [g100, up1_n _ _ (by omega)] at this
      exact this
    obtain ⟨F', g1, g2, g3⟩ := ih (k + 1) G g100 (by omega)
    refine ⟨F', ?_, fun b hb => by rw [g2 b hb, eG, up1_ne _ _ hb], g3⟩
    have f0 : F 100 0 = nI n := by rw [hF, up1_n _ _ (by decide)]; exact R.1.2.1
    have es := stN_s B k
    rw [q_187_16]
    simp only [mS, mR, Y_99 h, Z_99_0 h, if_true, if_pos t9, show rdI (F, J, σ) 100 0 = some (F 100 0) from rd_100 (i := 0) h (by decide), f0, Option.bind_some, md, o2, orI k (by omega) _ (stN_lt k), Int32.or_zero, nI_s]
    rw [if_neg (nle hk (by omega))]
    by_cases c : s (4 + 5 * k + 2) ≤ vv k - vv k / 10 * 10
    · rw [if_neg (fun q => ((hB k).mp q) c)] at es
      rw [if_pos c]
      rw [es] at g1
      exact g1
    · rw [if_pos ((hB k).mpr c)] at es
      rw [if_neg c]
      rw [es] at g1
      exact g1
theorem lgB_iff (s : Nat → Int32) (k : Nat) : lgB s k = true ↔ ¬ s (4 + 5 * k + 2) ≤ drV (zs s k) - drV (zs s k) / 10 * 10 := by
  unfold lgB
  generalize drV (zs s k) - drV (zs s k) / 10 * 10 = v
  rw [Bool.not_eq_true', decide_eq_false_iff_not]
theorem m_workL (h : Lay L σ) {n m t : Nat} (R : RK s n m t) (x y : Int32) (F : Nat → Nat → Int32) (hF : F 100 = s) : ∃ F', Rn (d + 1) 187 (16, [.ref 99, .int x, .int y, .int 0, .int 0], [], (F, J, σ)) = Rn (d + 1) 187 (16, [.ref 99, .int x, .int y, .int (nI (stN (lgB s) n)), .int (nI n)], [], (F', J, σ)) ∧ (∀ b, b ≠ 100 → F' b = F b) ∧ F' 100 = up1 s 3 (zs s n) := by
  have us : up1 s 3 (zs s 0) = s := up1_self s 3
  exact m_workA (vv := fun k => drV (zs s k)) h R x y (fun k => (zs_s s k).symm) (fun k => rfl) (fun k => lgB_iff s k) n 0 F (by rw [us]; exact hF) (by omega)
end WORKC
