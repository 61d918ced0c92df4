/-! CHANCES: the class. -/
section CHN
variable {L d : Nat} {F F' : Nat → Nat → Int32} {J J' : Nat → Nat → Int64} {σ : aSg} {μ : aMem} {s : Nat → Int32} {A wt g tl ln : Nat → Nat} {φ : Nat → Nat}
theorem sumC_nz (n : Nat) (hφ : ∀ S, tw tl S n = 0 → φ S = 0) : ∀ r k P, k + r = n → P < 2 ^ k → tw tl P k = 0 → sumC φ r k P = 0
  | 0, k, P, e, hP, h0 => hφ P (by rw [show n = k by omega]; exact h0)
  | r + 1, k, P, e, hP, h0 => by
    have hp : 2 ^ (k + 1) = 2 ^ k + 2 ^ k := by rw [Nat.pow_succ]; omega
    show sumC _ r (k + 1) P + sumC _ r (k + 1) (P + 2 ^ k) = 0
    rw [sumC_nz n hφ r (k + 1) P (by omega) (by omega) (by rw [tw_s, h0, Nat.zero_mul]), sumC_nz n hφ r (k + 1) (P + 2 ^ k) (by omega) (by omega) (by rw [tw_s, tw_hi k (Nat.le_refl _), h0, Nat.zero_mul])]
def tlN (s : Nat → Int32) (k : Nat) : Nat := if (s (4 + 5 * k + 2)).toInt.toNat ≤ 10 then (s (4 + 5 * k + 2)).toInt.toNat else 10
theorem tlN_le (k : Nat) : tlN s k ≤ 10 := by unfold tlN; split <;> omega
theorem tlN_eq {n m t k : Nat} (R : RK s n m t) (hk : k < n) : s (4 + 5 * k + 2) = nI (tlN s k) := by
  have g := (R.1.2.2 k hk).2.2.1
  have h2 : (s (4 + 5 * k + 2)).toInt ≤ 10 := Int32.le_iff_toInt_le.mp g.2
  unfold tlN
  rw [if_pos (by omega)]
  exact nI_fo g.1
def phi (s : Nat → Int32) (wt : Nat → Nat) (n e S : Nat) : Nat := if teN (aN s) (lS (gN s) S) wt n = e then tw (tlN s) S n else 0
abbrev L2 (ln wt : Nat → Nat) (n : Nat) : Prop := ∀ k, k < n → ln k ≤ 199 ∧ wt k ≤ 99
theorem enN_l2 {n : Nat} (hb : L2 ln wt n) : ∀ k, k < n → enN A ln wt k ≤ 298 * (k + 1) := by
  intro k
  induction k using Nat.strongRecOn with
  | ind k ih =>
    intro hk
    have h1 : bgS (enN A ln wt) (A k) k ≤ 298 * k := bgS_le k (fun q hq => Nat.le_trans (ih q hq (by omega)) (by omega))
    have h2 := hb k hk
    unfold enN
    rw [bgN_eq]
    omega
theorem teN_l2 {n : Nat} (hb : L2 ln wt n) : teN A ln wt n ≤ 298 * n := mxN_le n (fun q hq => Nat.le_trans (enN_l2 hb q hq) (by omega))
theorem L2_S {n m t S : Nat} (R : RK s n m t) (hw : ∀ k, wt k ≤ 99) : L2 (lS (gN s) S) wt n := fun k hk => ⟨by
  have := (gN_eq R hk).2
  unfold lS
  split <;> omega, hw k⟩
theorem lN_0 (x : Int64) : x + lN 0 = x := Int64.add_zero x
theorem c_spread (h : Lay L σ) {n m t : Nat} (R : RK s n m t) (hw : ∀ k, wt k ≤ 99) : ∀ (r k P l w : Nat) (F : Nat → Nat → Int32) (J : Nat → Nat → Int64), k + r = n → P < 2 ^ k → PR F 1 s n → (∀ q, q < n → F 57 q = nI (wt q)) → (∀ q, q < k → F 59 q = nI (enN (aN s) (lS (gN s) P) wt q)) → l = mxN (enN (aN s) (lS (gN s) P) wt) k → w = tw (tlN s) P k → ∃ F' J', cV (d + 1 + r) 60 [.ref 55, .ref 1, .int (nI k), .int (nI l), .long (lN w)] (F, J, σ) = some (F', J', σ) ∧ (∀ b, b ≠ 59 → F' b = F b) ∧ (∀ q, q < k → F' 59 q = F 59 q) ∧ (∀ a, a ≠ 63 → J' a = J a) ∧ ∀ e, J' 63 e = J 63 e + lN (sumC (phi s wt n e) r k P) := by
  have hp := PL_1 h
  have n10 := R.1.1
  have t5 : True ∧ 55 < 999999 := ⟨trivial, by decide⟩
  intro r
  induction r with
  | zero =>
    intro k P l w F J e hP P1 hF hE hl hww
    have ek : k = n := by omega
    subst ek
    have hle : l ≤ 2980 := by rw [hl]; exact Nat.le_trans (teN_l2 (A := aN s) (L2_S R hw)) (by omega)
    refine ⟨F, up1 J 63 (up1 (J 63) l (J 63 l + lN w)), ?_, fun b _ => rfl, fun q _ => rfl, fun a ha => up1_n _ _ ha, fun e' => ?_⟩
    · refine i_60 (d := d) (v := none) ?_
      rw [q_60_0]
      simp only [mS, mR, mF, mJ, hp.y0, P1.2.2.1, if_true, Y_55 h, Z_55_7 h, Y_63 h, ix_nI (show l < 2 ^ 31 by omega)]
      rw [if_neg (Int32.lt_irrefl), if_neg (show ¬ nI l < (0 : Int32) from nlt (b := 0) (by omega) (by omega)), if_neg (show ¬ (2980 : Int32) < nI l from nlt (a := 2980) (by omega) (by decide)), if_pos ⟨trivial, inb_nI (by omega) (by decide)⟩]
      rfl
    · rw [up1_s]
      show up1 (J 63) l (J 63 l + lN w) e' = J 63 e' + lN (if mxN (enN (aN s) (lS (gN s) P) wt) k = e' then tw (tlN s) P k else 0)
      rw [← hl, ← hww]
      by_cases c : l = e'
      · rw [if_pos c, ← c, up1_s]
      · rw [if_neg c, up1_n _ _ (fun q => c q.symm), lN_0]
  | succ r ih =>
    intro k P l w F J e hP P1 hF hE hl hww
    have hk : k < n := by omega
    have hp2 : 2 ^ (k + 1) = 2 ^ k + 2 ^ k := by rw [Nat.pow_succ]; omega
    have LWp : ∀ S, LW (lS (gN s) S) wt n := fun S q hq => by have := L2_S (S := S) R hw q hq; omega
    have hen : ∀ S q, q < n → enN (aN s) (lS (gN s) S) wt q ≤ 2980 := fun S q hq => Nat.le_trans (enN_l2 (L2_S R hw) q hq) (by omega)
    have hll : l ≤ 2980 := by rw [hl]; exact mxN_le k (fun q hq => hen P q (by omega))
    obtain ⟨g1, g2⟩ := gN_eq R hk
    have te := tlN_eq R hk
    have tle := tlN_le (s := s) k
    have tk : True ∧ 1 + 8 + k < 999999 := ⟨trivial, by omega⟩
    have ib : True ∧ inb (nI k) 10 := ⟨trivial, inb_nI (by omega) (by decide)⟩
    have yk : σ.2.1 (1 + 8 + k) = (1, 5) := hp.yk (by omega)
    have cb := c_beginOf (d := d + 1 + r) (J := J) h hp P1 R hk (e := enN (aN s) (lS (gN s) P) wt) (wk := wt k) (fun q hq => ⟨hE q hq, by have := hen P q (by omega); omega⟩) (hF k hk) (hw k)
    obtain ⟨b, eb⟩ : ∃ b, b = bgS (enN (aN s) (lS (gN s) P) wt) (aN s k) k + wt k := ⟨_, rfl⟩
    rw [← eb] at cb
    have e0 : enN (aN s) (lS (gN s) P) wt k = b + gN s k := by
      show bgN _ _ _ _ + _ = _
      rw [bgN_eq, ← eb]
      unfold lS
      rw [bit_lo hP, if_neg (by decide)]
    have same : ∀ q, q < k → enN (aN s) (lS (gN s) (P + 2 ^ k)) wt q = enN (aN s) (lS (gN s) P) wt q := fun q hq => enN_cg q (fun j hj => lS_hi (by omega))
    have e1 : enN (aN s) (lS (gN s) (P + 2 ^ k)) wt k = b + (2 * gN s k + 1) := by
      show bgN _ _ _ _ + _ = _
      rw [bgN_eq, bgS_cg k same, ← eb]
      unfold lS
      rw [bit_hi hP, if_pos rfl]
    have c9 : ∀ (G : Nat → Nat → Int32) (K : Nat → Nat → Int64), G (1 + 8 + k) = F (1 + 8 + k) → cI (d + 1 + r) 9 [.ref (1 + 8 + k)] (G, K, σ) = some (nI (gN s k), (G, K, σ)) := fun G K hG => by
      refine i_9 ?_
      rw [q_9_0]
      simp only [mS, mF, yk, if_true, hG, P1.2.2.2.1 k hk 1 (by decide), g1]
    have c10 : ∀ (G : Nat → Nat → Int32) (K : Nat → Nat → Int64), G (1 + 8 + k) = F (1 + 8 + k) → cI (d + 1 + r) 10 [.ref (1 + 8 + k)] (G, K, σ) = some (nI (2 * gN s k + 1), (G, K, σ)) := fun G K hG => by
      refine i_10 ?_
      rw [q_10_0]
      simp only [mS, mF, yk, if_true, hG, P1.2.2.2.1 k hk 1 (by decide), g1, show (2 : Int32) * nI (gN s k) = nI (2 * gN s k) from pk_mul 2 _, nI_s]
    have f2 : F (1 + 8 + k) 2 = nI (tlN s k) := (P1.2.2.2.1 k hk 2 (by decide)).trans te
    have mx : ∀ v, v ≤ 5000 → (if nI l < nI v then nI v else nI l) = nI (if l < v then v else l) := fun v hv => by
      by_cases c : l < v
      · rw [if_pos (ylt c (by omega)), if_pos c]
      · rw [if_neg (nlt (by omega) (by omega)), if_neg c]
    have ls : ∀ S, (∀ q, q < k → enN (aN s) (lS (gN s) S) wt q = enN (aN s) (lS (gN s) P) wt q) → (if l < enN (aN s) (lS (gN s) S) wt k then enN (aN s) (lS (gN s) S) wt k else l) = mxN (enN (aN s) (lS (gN s) S) wt) (k + 1) := fun S hS => by
      have : mxN (enN (aN s) (lS (gN s) S) wt) k = l := by
        rw [hl]
        have : ∀ j, j ≤ k → mxN (enN (aN s) (lS (gN s) S) wt) j = mxN (enN (aN s) (lS (gN s) P) wt) j := by
          intro j
          induction j with
          | zero => intro _; rfl
          | succ j ihj =>
            intro hj
            show (if _ < _ then _ else _) = (if _ < _ then _ else _)
            rw [ihj (by omega), hS j (by omega)]
        exact this k (Nat.le_refl _)
      show _ = if mxN (enN (aN s) (lS (gN s) S) wt) k < _ then _ else mxN (enN (aN s) (lS (gN s) S) wt) k
      rw [this]
    -- the short one
    have short : ∃ F1 J1, (tlN s k < 10 → cV (d + 1 + r) 60 [.ref 55, .ref 1, .int (nI (k + 1)), .int (nI (if l < b + gN s k then b + gN s k else l)), .long (lN (w * (10 - tlN s k)))] (up1 F 59 (up1 (F 59) k (nI (b + gN s k))), J, σ) = some (F1, J1, σ)) ∧ (¬ tlN s k < 10 → F1 = F ∧ J1 = J) ∧ (∀ b, b ≠ 59 → F1 b = F b) ∧ (∀ q, q < k → F1 59 q = F 59 q) ∧ (∀ a, a ≠ 63 → J1 a = J a) ∧ ∀ e', J1 63 e' = J 63 e' + lN (sumC (phi s wt n e') r (k + 1) P) := by
      by_cases c : tlN s k < 10
      · obtain ⟨F1, J1, k1, k2, k3, k4, k5⟩ := ih (k + 1) P (if l < b + gN s k then b + gN s k else l) (w * (10 - tlN s k)) (up1 F 59 (up1 (F 59) k (nI (b + gN s k)))) J (by omega) (by omega) (PR_cg (fun a h1 h2 => up1_ne _ _ (by omega)) (fun j _ => rfl) P1) (fun q hq => by rw [up1_ne _ _ (by decide)]; exact hF q hq) (fun q hq => by
          rw [up1_s]
          by_cases eq : q = k
          · rw [eq, up1_s, e0]
          · rw [up1_n _ _ eq]; exact hE q (by omega)) (by rw [← e0]; exact ls P (fun q _ => rfl)) (by rw [tw_s, bit_lo hP, if_neg (by decide), hww])
        refine ⟨F1, J1, fun _ => k1, fun q => absurd c q, fun b' hb' => by rw [k2 b' hb', up1_ne _ _ hb'], fun q hq => by rw [k3 q (by omega), up1_s, up1_n _ _ (by omega)], k4, k5⟩
      · refine ⟨F, J, fun q => absurd q c, fun _ => ⟨rfl, rfl⟩, fun _ _ => rfl, fun _ _ => rfl, fun _ _ => rfl, fun e' => ?_⟩
        rw [sumC_nz (tl := tlN s) n (fun S hS => by unfold phi; rw [hS]; exact ite_self _) r (k + 1) P (by omega) (by omega) (by rw [tw_s, bit_lo hP, if_neg (by decide), show 10 - tlN s k = 0 by omega, Nat.mul_zero]), lN_0]
    obtain ⟨F1, J1, s1, s2, s3, s4, s5, s6⟩ := short
    have long : ∃ F2 J2, (0 < tlN s k → cV (d + 1 + r) 60 [.ref 55, .ref 1, .int (nI (k + 1)), .int (nI (if l < b + (2 * gN s k + 1) then b + (2 * gN s k + 1) else l)), .long (lN (w * tlN s k))] (up1 F1 59 (up1 (F1 59) k (nI (b + (2 * gN s k + 1)))), J1, σ) = some (F2, J2, σ)) ∧ (¬ 0 < tlN s k → F2 = F1 ∧ J2 = J1) ∧ (∀ b, b ≠ 59 → F2 b = F1 b) ∧ (∀ q, q < k → F2 59 q = F1 59 q) ∧ (∀ a, a ≠ 63 → J2 a = J1 a) ∧ ∀ e', J2 63 e' = J1 63 e' + lN (sumC (phi s wt n e') r (k + 1) (P + 2 ^ k)) := by
      by_cases c : 0 < tlN s k
      · obtain ⟨F2, J2, k1, k2, k3, k4, k5⟩ := ih (k + 1) (P + 2 ^ k) (if l < b + (2 * gN s k + 1) then b + (2 * gN s k + 1) else l) (w * tlN s k) (up1 F1 59 (up1 (F1 59) k (nI (b + (2 * gN s k + 1))))) J1 (by omega) (by omega) (PR_cg (fun a h1 h2 => by rw [up1_ne _ _ (by omega), s3 a (by omega)]) (fun j _ => rfl) P1) (fun q hq => by rw [up1_ne _ _ (by decide), s3 57 (by decide)]; exact hF q hq) (fun q hq => by
          rw [up1_s]
          by_cases eq : q = k
          · rw [eq, up1_s, e1]
          · rw [up1_n _ _ eq, s4 q (by omega), same q (by omega)]; exact hE q (by omega)) (by rw [← e1]; exact ls (P + 2 ^ k) same) (by rw [tw_s, bit_hi hP, if_pos rfl, tw_hi k (Nat.le_refl _), hww])
        refine ⟨F2, J2, fun _ => k1, fun q => absurd c q, fun b' hb' => by rw [k2 b' hb', up1_ne _ _ hb'], fun q hq => by rw [k3 q (by omega), up1_s, up1_n _ _ (by omega)], k4, k5⟩
      · refine ⟨F1, J1, fun q => absurd q c, fun _ => ⟨rfl, rfl⟩, fun _ _ => rfl, fun _ _ => rfl, fun _ _ => rfl, fun e' => ?_⟩
        rw [sumC_nz (tl := tlN s) n (fun S hS => by unfold phi; rw [hS]; exact ite_self _) r (k + 1) (P + 2 ^ k) (by omega) (by omega) (by rw [tw_s, bit_hi hP, if_pos rfl, show tlN s k = 0 by omega, Nat.mul_zero]), lN_0]
    obtain ⟨F2, J2, l1, l2, l3, l4, l5, l6⟩ := long
    refine ⟨F2, J2, ?_, fun b' hb' => by rw [l3 b' hb', s3 b' hb'], fun q hq => by rw [l4 q hq, s4 q hq], fun a ha => by rw [l5 a ha, s5 a ha], fun e' => ?_⟩
    · refine i_60 (d := d + 1 + r) (v := none) ?_
      have fk : F1 (1 + 8 + k) = F (1 + 8 + k) := s3 _ (by omega)
      have b1 : b + gN s k ≤ 2980 := by rw [← e0]; exact hen P k hk
      have b2 : b + (2 * gN s k + 1) ≤ 2980 := by rw [← e1]; exact hen (P + 2 ^ k) k hk
      have tt : (nI (tlN s k)).toInt64 = lN (tlN s k) := nI_lN (by omega)
      have t10 : (10 - nI (tlN s k)).toInt64 = lN (10 - tlN s k) := by rw [show (10 : Int32) - nI (tlN s k) = nI (10 - tlN s k) from pk_sub (a := 10) tle, nI_lN (by omega)]
      have rk : ∀ (G : Nat → Nat → Int32) (K : Nat → Nat → Int64), rdI (G, K, σ) 59 (nI k) = some (G 59 k) := fun G K => rd_k (Y_59 h) (by omega) (by decide)
      rw [q_60_0]
      simp only [mS, mR, mF, hp.y0, hp.z0, hp.y1, P1.2.2.1, if_true, Y_55 h, if_pos t5, ix_nI (show k < 2 ^ 31 by omega), hp.zk (show k < 10 by omega), yk, cb, Option.bind_some, f2, if_pos tk, c9 F J rfl, c10 F J rfl, Z_55_3 h, Y_59 h, if_pos ib, setF_up, nI_add, rk, up1_s, up1_n _ _ (show 1 + 8 + k ≠ 59 by omega), tt, t10, lN_mul, nI_s, mx _ (show b + gN s k ≤ 5000 by omega), mx _ (show b + (2 * gN s k + 1) ≤ 5000 by omega)]
      rw [if_pos (ylt hk (by omega)), if_pos ⟨by decide, by decide, ib.2⟩]
      by_cases c10' : tlN s k < 10
      · rw [if_neg (show ¬ (10 : Int32) ≤ nI (tlN s k) from nle (a := 10) c10' (by decide)), s1 c10', Option.bind_some]
        simp only [mS, mR, mF, yk, if_true, fk, f2, Y_55 h, if_pos t5, if_pos tk, c10 F1 J1 fk, Option.bind_some, Z_55_3 h, Y_59 h, if_pos ib, setF_up, nI_add, rk, up1_s, up1_n _ _ (show 1 + 8 + k ≠ 59 by omega), tt, lN_mul, nI_s, mx _ (show b + (2 * gN s k + 1) ≤ 5000 by omega)]
        by_cases c0 : 0 < tlN s k
        · rw [if_neg (show ¬ nI (tlN s k) ≤ (0 : Int32) from nle (b := 0) c0 (by omega)), l1 c0]
          rfl
        · rw [if_pos (show nI (tlN s k) ≤ (0 : Int32) from yle (b := 0) (by omega) (by decide)), (l2 c0).1, (l2 c0).2]
      · obtain ⟨q1, q2⟩ := s2 c10'
        have c0 : 0 < tlN s k := by omega
        rw [if_pos (show (10 : Int32) ≤ nI (tlN s k) from yle (a := 10) (by omega) (by omega)), if_neg (show ¬ nI (tlN s k) ≤ (0 : Int32) from nle (b := 0) c0 (by omega))]
        have l1' := l1 c0
        rw [q1, q2] at l1'
        rw [l1']
        rfl
    · rw [l6 e', s6 e', Int64.add_assoc, lN_add]
      rfl
end CHN
