/-! TEXT: a text is read and kept. -/
section OPX
variable {L d l B : Nat} {F F' : Nat → Nat → Int32} {J : Nat → Nat → Int64} {σ σ' : aSg} {μ : aMem} {T s s' xs : Nat → Int32} {S : PSt} {key : Int32}
theorem hgt_K {K : Nat → Int32 × Int32} {a : Nat} : ∀ k, (∀ j, j < k → s (a + 4 + 2 * j) = (K j).1 ∧ s (a + 4 + 2 * j + 1) = (K j).2) → hgt s a k = hgK K k
  | 0, _ => rfl
  | k + 1, h => by
    obtain ⟨h1, h2⟩ := h k (by omega)
    rw [hgK_s, ← hgt_K k (fun j hj => h j (by omega)), ← h1, ← h2]
    rfl
theorem TW_K {K : Nat → Int32 × Int32} {a c : Nat} (h0 : 0 ≤ s a ∧ s a ≤ 2) (h2 : s (a + 2) = nI c) (hc : c ≤ 96) (hk : okK (s a) K c) (hg : hgK K c = 1) (h : ∀ j, j < c → s (a + 4 + 2 * j) = (K j).1 ∧ s (a + 4 + 2 * j + 1) = (K j).2) : TW s a c := by
  refine ⟨h0, h2, hc, fun j hj => ?_, (hgt_K c h).trans hg⟩
  obtain ⟨h1, h2⟩ := h j hj
  rw [h1, h2, hgt_K j (fun i hi => h i (by omega))]
  exact hk j hj
theorem tx_ok (hok : (txR T l).1 = true) (hl : l ≤ 96) : (txK T l = 0 ∨ txK T l = 1 ∨ txK T l = 2) ∧ okK (txK T l) (txR T l).2.2.2 (txR T l).2.2.1.2 ∧ hgK (txR T l).2.2.2 (txR T l).2.2.1.2 = 1 ∧ (txR T l).2.2.1.2 < 96 := by
  by_cases ck : txK T l = -1
  · have er : txR T l = (false, txA T l) := by unfold txR; rw [if_pos ck]
    rw [er] at hok
    exact Bool.noConfusion hok
  · by_cases c : (txQ T l).1 = true ∧ (txQ T l).2.1.1 = 0
    · have er : txR T l = (true, (txQ T l).2) := by unfold txR; rw [if_neg ck, if_pos c]
      have G := tx_G ck
      have gp : GP T l (txK T l) (nxS T l (txA T l)) (txQ T l) := rdP_good _ G
      obtain ⟨g1, g2, g3⟩ := gp
      obtain ⟨y1, y2, y3, y4⟩ := g3 c.1
      rw [er]
      refine ⟨(tx_k ck).1, y3, y4, ?_⟩
      have e0 : (nxS T l (txA T l)).2.1.2 = 0 := rfl
      rw [e0] at y2
      have z := G.2.1
      rw [e0] at z
      have := g1.1
      have := g1.2.1
      show (txQ T l).2.2.1.2 < 96
      omega
    · have er : txR T l = (false, (txQ T l).2) := by unfold txR; rw [if_neg ck, if_neg c]
      rw [er] at hok
      exact Bool.noConfusion hok
theorem tx_st : (txR T l).2.1.2.1 ≤ l := by
  by_cases ck : txK T l = -1
  · have er : txR T l = (false, txA T l) := by unfold txR; rw [if_pos ck]
    rw [er]
    have W := tx_W (T := T) (l := l)
    exact Nat.le_trans W.1 W.2.1
  · have gp : GP T l (txK T l) (nxS T l (txA T l)) (txQ T l) := rdP_good _ (tx_G ck)
    have W := gp.1
    by_cases c : (txQ T l).1 = true ∧ (txQ T l).2.1.1 = 0
    · have er : txR T l = (true, (txQ T l).2) := by unfold txR; rw [if_neg ck, if_pos c]
      rw [er]
      exact Nat.le_trans W.1 W.2.1
    · have er : txR T l = (false, (txQ T l).2) := by unfold txR; rw [if_neg ck, if_neg c]
      rw [er]
      exact Nat.le_trans W.1 W.2.1
/-! cells that are new -/
theorem TX_N {c a : Nat} (hc : ∀ x, 124 ≤ x → x < σ.2.2.1 → F' x = F x ∧ σ'.1 x = σ.1 x ∧ σ'.2.1 x = σ.2.1 x) (hN : σ.2.2.1 ≤ σ'.2.2.1) (hs : ∀ j, j < 200 → s' (a + j) = s (a + j)) (X : TX F σ c s a) : TX F' σ' c s' a := by
  obtain ⟨k, W, ⟨c1, c2, c3⟩, y1, y2, y3, f1, f2, f3⟩ := X
  obtain ⟨u1, u2, u3⟩ := hc c c1 (by omega)
  obtain ⟨v1, v2, v3⟩ := hc (c + 1) (by omega) c2
  have h0 : s' a = s a := hs 0 (by omega)
  refine ⟨k, TW_cg hs W, ⟨c1, by omega, c3⟩, by rw [u3]; exact y1, by rw [u2]; exact y2, by rw [v3]; exact y3, by rw [u1, h0]; exact f1, by rw [u1, hs 1 (by omega)]; exact f2, fun j hj => ?_⟩
  have hk := W.2.2.1
  rw [v1, h0, show a + 4 + 2 * j = a + (4 + 2 * j) by omega, show a + (4 + 2 * j) + 1 = a + (5 + 2 * j) by omega, hs _ (by omega), hs _ (by omega)]
  have := f3 j hj
  rw [show a + 4 + 2 * j = a + (4 + 2 * j) by omega, show a + (4 + 2 * j) + 1 = a + (5 + 2 * j) by omega] at this
  exact this
theorem RW_N {p : Nat} (hc : ∀ x, 124 ≤ x → x < σ.2.2.1 → F' x = F x ∧ σ'.1 x = σ.1 x ∧ σ'.2.1 x = σ.2.1 x) (hN : σ.2.2.1 ≤ σ'.2.2.1) (hF : ∀ a, p ≤ a → a ≤ p + 17 → F' a = F a) (e : σ'.1 (p + 6) = σ.1 (p + 6)) (R : RW F σ p s) : RW F' σ' p s := by
  obtain ⟨n, m, t, P, B, ⟨t1, t2, t3, t4, t5⟩, z⟩ := R
  refine ⟨n, m, t, PR_cg hF (fun _ _ => rfl) P, BR_cg hF (fun _ _ => rfl) B, ⟨t1, t2, by rw [hF p (by omega) (by omega)]; exact t3, fun i hi => ?_, fun k hk => by rw [hF (p + 7) (by omega) (by omega)]; exact t5 k hk⟩, by rw [hF p (by omega) (by omega)]; exact z⟩
  rw [e]
  exact TX_N hc hN (fun _ _ => rfl) (t4 i hi)
theorem TA_N {p : Nat} (h : Lay L σ) (hp : σ'.1 (p + 6) = σ.1 (p + 6)) (hc : ∀ x, x < σ.2.2.1 → σ'.2.1 x = σ.2.1 x) (R : TA σ p) : TA σ' p := fun i hi => by
  rw [hp]
  rcases R i hi with c | ⟨c1, c2⟩
  · exact Or.inl c
  · refine Or.inr ⟨c1, ?_⟩
    have hx : σ.1 (p + 6) i < σ.2.2.1 := by
      rcases Nat.lt_or_ge (σ.1 (p + 6) i) σ.2.2.1 with z | z
      · exact z
      · rw [h.2.2.2.2.2.2.2 _ z (by omega)] at c2
        exact absurd c2 (by decide)
    rw [hc _ hx]
    exact c2
theorem IV_text {q : Nat} (I : IV L xs q F σ) (hL : Lay L σ') (n1 : σ'.2.2.1 ≤ σ.2.2.1 + 2) (n2 : σ'.2.2.2 ≤ σ.2.2.2 + 200) (n3 : σ.2.2.1 ≤ σ'.2.2.1) (hc : ∀ x, 124 ≤ x → x < σ.2.2.1 → F' x = F x ∧ σ'.1 x = σ.1 x ∧ σ'.2.1 x = σ.2.1 x) (hF : ∀ a, (19 ≤ a ∧ a ≤ 36) ∨ (68 ≤ a ∧ a ≤ 98) ∨ a = 101 ∨ (103 ≤ a ∧ a ≤ 110) ∨ a = 122 ∨ a = 1000014 → F' a = F a) (h0 : F' 0 3 = F 0 3 ∧ F' 0 9 = F 0 9 ∧ F' 0 7 = 0) (h9 : F' 99 3 = F 99 3 ∧ F' 99 36 = F 99 36 ∧ F' 99 20 = 0) (e25 : σ'.1 25 = σ.1 25) (hR : RW F' σ' 1 (F' 100)) (ta1 : TA σ' 1) (ta2 : TA σ' 19) (ta3 : TA σ' 37) : IV L xs (q + 1) F' σ' := by
  have nn := I.nn
  refine ⟨⟨hL, by rw [hF 1000014 (by omega)]; exact I.xz, by omega, by omega⟩, hR, ?_, ⟨0, by decide, h0.2.2, h9.2.2, fun i hi => absurd hi (Nat.not_lt_zero i)⟩, WTE_cg h0.2.1 h9.2.1 (hF 68 (by omega)) (hF 122 (by omega)) I.wt, ?_, ?_, ta1, ta2, ta3⟩
  · obtain ⟨i1, i2, i3⟩ := I.im
    unfold IM
    rw [h0.1, h9.1, hF 101 (by omega)]
    exact ⟨i1, i2, fun z => RW_N hc n3 (fun a q1 q2 => hF a (by omega)) e25 (i3 z)⟩
  · intro i hi
    have := I.sh i hi
    unfold SH at this ⊢
    rw [hF (70 + 2 * i) (by omega), hF (71 + 2 * i) (by omega), hF 103 (by omega), hF 104 (by omega), hF 105 (by omega)]
    exact this
  · intro i hi
    have := I.sl i hi
    unfold SL at this ⊢
    rw [hF (79 + 4 * i) (by omega), hF (80 + 4 * i) (by omega), hF (81 + 4 * i) (by omega), hF (82 + 4 * i) (by omega), hF 106 (by omega), hF 107 (by omega), hF 108 (by omega), hF 109 (by omega), hF 110 (by omega)]
    exact this
/-! the class makes the text -/
abbrev tM1 (μ : aMem) : aMem := newC μ 7 3
abbrev tM2 (μ : aMem) (c : Nat) : aMem := cpyF (newC (tM1 μ) 10 c) 66 (mN (tM1 μ)) 0 0 c
abbrev tM3 (μ : aMem) (c : Nat) (key o : Int32) : aMem := setR (setF (setF (tM2 μ c) (mN μ) 0 key) (mN μ) 1 o) (mN μ) 2 (mN (tM1 μ))
theorem c_copyOf (h : Lay L σ) {c : Nat} (hc : c < 96) (hN : σ.2.2.1 < 800000) : cR d 233 [.ref 66, .int (nI c)] (tM1 (F, J, σ)) = some (mN (tM1 (F, J, σ)), tM2 (F, J, σ) c) := by
  have h124 := h.2.2.2.1
  have s1 : mS (tM1 (F, J, σ)) 66 = (10, 96) := by
    show up1 σ.2.1 σ.2.2.1 (7, 3) 66 = _
    rw [up1_n _ _ (by omega), Y_66 h]
  have n1 : mN (tM1 (F, J, σ)) = σ.2.2.1 + 1 := rfl
  have s2 : mS (newC (tM1 (F, J, σ)) 10 c) 66 = (10, 96) := by
    show up1 (mS (tM1 (F, J, σ))) (mN (tM1 (F, J, σ))) (10, c) 66 = _
    rw [n1, up1_n _ _ (by omega), s1]
  have s3 : mS (newC (tM1 (F, J, σ)) 10 c) (mN (tM1 (F, J, σ))) = (10, c) := by
    show up1 (mS (tM1 (F, J, σ))) (mN (tM1 (F, J, σ))) (10, c) (mN (tM1 (F, J, σ))) = _
    rw [up1_s]
  have r1 : rdL (tM1 (F, J, σ)) 66 = some (nI 96) := by
    unfold rdL
    rw [s1, if_pos (Or.inl ⟨by decide, by decide⟩)]
    rfl
  have r2 : rdL (newC (tM1 (F, J, σ)) 10 c) 66 = some (nI 96) := by
    unfold rdL
    rw [s2, if_pos (Or.inl ⟨by decide, by decide⟩)]
    rfl
  have ic : ix (nI c) = c := ix_nI (by omega)
  have i0 : ix 0 = 0 := rfl
  refine i_233 ?_
  rw [q_233_0, r1, Option.bind_some, if_neg (show ¬ nI c = nI 96 from fun z => by have := (nI_eq (by omega) (by decide)).mp z; omega), ic, if_pos ⟨by rw [n1]; omega, show ¬ nI c < 0 from nlt (b := 0) (by omega) (by omega), by omega⟩, r2, Option.bind_some, if_pos (show nI c < nI 96 from ylt hc (by decide)), s2, s3, ic, i0, if_pos ⟨rfl, rfl, by decide, by decide, show ¬ nI c < 0 from nlt (b := 0) (by omega) (by omega), by show 0 + c ≤ 96; omega, by show 0 + c ≤ c; omega⟩, if_pos (by rw [n1]; omega)]
theorem c_textRead (h : Lay L σ) (R : RS T l key F S) (hc : S.2.1.2 < 96) (hN : σ.2.2.1 < 800000) : cR (d + 1) 22 [.ref 64] (F, J, σ) = some (σ.2.2.1, tM3 (F, J, σ) S.2.1.2 key (nI S.2.1.1)) := by
  have h124 := h.2.2.2.1
  have n0 : mN (F, J, σ) = σ.2.2.1 := rfl
  have n1 : mN (tM1 (F, J, σ)) = σ.2.2.1 + 1 := rfl
  have s64 : mS (tM1 (F, J, σ)) 64 = (3, 10) := by
    show up1 σ.2.1 σ.2.2.1 (7, 3) 64 = _
    rw [up1_n _ _ (by omega), Y_64 h]
  have m66 : mR (tM1 (F, J, σ)) 64 2 = 66 := by
    show up1 σ.1 σ.2.2.1 _ 64 2 = _
    rw [up1_n _ _ (by omega), Z_64_2 h]
  have mf : ∀ j, mF (tM1 (F, J, σ)) 64 j = F 64 j := fun j => by
    show up1 F σ.2.2.1 _ 64 j = _
    rw [up1_ne _ _ (by omega)]
  have sN : mS (tM2 (F, J, σ) S.2.1.2) σ.2.2.1 = (7, 3) := by
    show up1 (up1 σ.2.1 σ.2.2.1 (7, 3)) (σ.2.2.1 + 1) (10, S.2.1.2) σ.2.2.1 = _
    rw [up1_n _ _ (by omega), up1_s]
  have e80 : cV d 80 [.ref σ.2.2.1, .int key, .int (nI S.2.1.1), .ref (mN (tM1 (F, J, σ)))] (tM2 (F, J, σ) S.2.1.2) = some (tM3 (F, J, σ) S.2.1.2 key (nI S.2.1.1)) := by
    refine i_80 (v := none) ?_
    rw [q_80_0, sN, if_pos (by omega), if_pos rfl, if_pos ⟨rfl, by rw [n1]; omega⟩]
  refine i_22 ?_
  rw [q_22_0, if_pos (by rw [n0]; omega), s64, if_pos rfl, m66, mf 3, mf 4, mf 5, R.r3, R.r4, R.r5, c_copyOf h hc hN, Option.bind_some]
  dsimp only
  rw [n0, if_pos (by omega), e80, Option.bind_some, if_pos (by omega)]
/-- what is in memory behind it -/
theorem tM3_f (h : Lay L σ) {c : Nat} {o : Int32} : ∃ F' J' σ', tM3 (F, J, σ) c key o = (F', J', σ') ∧ (σ'.2.2.1 = σ.2.2.1 + 2 ∧ σ'.2.2.2 = σ.2.2.2 + 3 + c) ∧ (∀ a, a ≠ σ.2.2.1 → a ≠ σ.2.2.1 + 1 → F' a = F a ∧ σ'.1 a = σ.1 a ∧ σ'.2.1 a = σ.2.1 a) ∧ (σ'.2.1 σ.2.2.1 = (7, 3) ∧ σ'.1 σ.2.2.1 2 = σ.2.2.1 + 1 ∧ σ'.2.1 (σ.2.2.1 + 1) = (10, c)) ∧ F' σ.2.2.1 0 = key ∧ F' σ.2.2.1 1 = o ∧ ∀ j, j < c → F' (σ.2.2.1 + 1) j = F 66 j := by
  have h124 := h.2.2.2.1
  obtain ⟨R0, S0, N, L0⟩ := σ
  dsimp only at h124 ⊢
  refine ⟨up1 (up1 (up1 (up1 (up1 F N (fun _ => 0)) (N + 1) (fun _ => 0)) (N + 1) (va_cpy (up1 (up1 F N (fun _ => 0)) (N + 1) (fun _ => 0) 66) (up1 (up1 F N (fun _ => 0)) (N + 1) (fun _ => 0) (N + 1)) 0 0 c)) N (up1 (up1 (up1 (up1 F N (fun _ => 0)) (N + 1) (fun _ => 0)) (N + 1) (va_cpy (up1 (up1 F N (fun _ => 0)) (N + 1) (fun _ => 0) 66) (up1 (up1 F N (fun _ => 0)) (N + 1) (fun _ => 0) (N + 1)) 0 0 c) N) 0 key)) N (up1 (up1 (up1 (up1 (up1 F N (fun _ => 0)) (N + 1) (fun _ => 0)) (N + 1) (va_cpy (up1 (up1 F N (fun _ => 0)) (N + 1) (fun _ => 0) 66) (up1 (up1 F N (fun _ => 0)) (N + 1) (fun _ => 0) (N + 1)) 0 0 c)) N (up1 (up1 (up1 (up1 F N (fun _ => 0)) (N + 1) (fun _ => 0)) (N + 1) (va_cpy (up1 (up1 F N (fun _ => 0)) (N + 1) (fun _ => 0) 66) (up1 (up1 F N (fun _ => 0)) (N + 1) (fun _ => 0) (N + 1)) 0 0 c) N) 0 key) N) 1 o), up1 (up1 J N (fun _ => 0)) (N + 1) (fun _ => 0), (up1 (up1 (up1 R0 N (fun _ => 999999)) (N + 1) (fun _ => 999999)) N (up1 (up1 (up1 R0 N (fun _ => 999999)) (N + 1) (fun _ => 999999) N) 2 (N + 1)), up1 (up1 S0 N (7, 3)) (N + 1) (10, c), N + 1 + 1, L0 + 3 + c), rfl, ⟨rfl, rfl⟩, fun a h1 h2 => ⟨?_, ?_, ?_⟩, ⟨?_, ?_, ?_⟩, ?_, ?_, fun j hj => ?_⟩
  · rw [up1_ne _ _ h1, up1_ne _ _ h1, up1_ne _ _ h2, up1_ne _ _ h2, up1_ne _ _ h1]
  · show up1 _ _ _ a = _
    rw [up1_n _ _ h1, up1_n _ _ h2, up1_n _ _ h1]
  · show up1 _ _ _ a = _
    rw [up1_n _ _ h2, up1_n _ _ h1]
  · show up1 _ _ _ N = _
    rw [up1_n _ _ (by omega), up1_s]
  · show (up1 _ _ _ : Nat → Nat → Nat) N 2 = _
    rw [up1_s, up1_s]
  · show up1 _ _ _ (N + 1) = _
    rw [up1_s]
  · rw [up1_s, up1_n _ _ (by decide), up1_s, up1_s]
  · rw [up1_s, up1_s]
  · rw [up1_ne _ _ (by omega), up1_ne _ _ (by omega), up1_s]
    unfold va_cpy
    rw [if_pos (by omega), show 0 + (j - 0) = j by omega, up1_ne _ _ (by omega), up1_ne _ _ (by omega)]
theorem c_addT (h : Lay L σ) {c t k : Nat} (t14 : t < 14) (hF : F 1 4 = nI t) (hc : σ.2.1 c = (7, 3)) (c124 : 124 ≤ c ∧ c < 999999) (hk : k < 3) (hkey : F c 0 = nI k) : cI d 15 [.ref 1, .ref c] (F, J, σ) = some (nI t, (up1 (up1 F 8 (up1 (F 8) k (nI t))) 1 (up1 (F 1) 4 (nI (t + 1))), J, (up1 σ.1 7 (up1 (σ.1 7) t c), σ.2))) := by
  refine i_15 ?_
  rw [q_15_0]
  have m5 : mR (setR (F, J, σ) 7 t c) 1 5 = 8 := by
    show up1 σ.1 7 (up1 (σ.1 7) t c) 1 5 = 8
    rw [up1_n _ _ (by decide), Z_1_5 h]
  simp only [mS, mR, mF, Y_1 h, Z_1_3 h, Y_7 h, hF, hc, hkey, if_true, ix_nI (show t < 2 ^ 31 by omega), ix_nI (show k < 2 ^ 31 by omega)]
  rw [if_pos (show nI t < 14 from ylt (b := 14) t14 (by decide)), if_pos ⟨by decide, by decide, inb_nI t14 (by decide), Or.inr ⟨c124.2, by decide⟩⟩, if_neg (show ¬ nI k < 0 from nlt (b := 0) (by omega) (by omega)), if_neg (show ¬ 3 ≤ nI k from nle (a := 3) hk (by decide))]
  have m5' : (setR (F, J, σ) 7 t c).2.2.1 1 5 = 8 := m5
  simp only [m5', Y_8 h]
  rw [if_pos ⟨by trivial, inb_nI hk (by decide)⟩]
  have e1 : setF (setR (F, J, σ) 7 t c) 8 k (nI t) = (up1 F 8 (up1 (F 8) k (nI t)), J, (up1 σ.1 7 (up1 (σ.1 7) t c), σ.2)) := rfl
  simp only [e1, setF_up, up1_s, up1_ne F _ (show 1 ≠ 8 by decide), hF, nI_s]
  rw [show nI (t + 1) - 1 = nI t by rw [show (1 : Int32) = nI 1 from rfl, pk_sub (by omega)]; rfl]
/-! the model keeps it -/
def rwT (s : Nat → Int32) (t : Nat) (key o c : Int32) : Nat → Int32 := up1 (up1 (up1 (up1 s (114 + 200 * t) key) (114 + 200 * t + 1) o) (114 + 200 * t + 2) c) 2 (nI (t + 1))
theorem m_text (h : Lay L σ) (hl : l ≤ 96) (hT : ∀ i, i < l → F 117 i = T i) (h20 : F 99 20 = nI l) {t : Nat} (t14 : t ≤ 14) (ht : F 100 2 = nI t) : ∃ v F2, paR T l (baB t) F F2 v ∧ cI 100 207 [.ref 99] (F, J, σ) = some (if (txR T l).1 = true then (if t = 14 then -1000000003 else nI t) else -100 - nI (txR T l).2.1.2.1, (if (txR T l).1 = true ∧ ¬ t = 14 then up1 F2 100 (rwT (F2 100) t v (F2 99 30) (F2 99 28)) else F2, J, σ)) := by
  obtain ⟨v, F2, e1, pr⟩ := m_parse (D := 34) (J := J) h hl hT h20 t14 ht
  refine ⟨v, F2, pr, i_207 (d := 99) ?_⟩
  obtain ⟨z1, z2, z3, z4, z5, z6⟩ := pr
  rw [q_207_0 99]
  simp only [mS, Y_99 h]
  rw [if_pos t99, e1, Option.bind_some]
  simp only [mS, mR, mF, Y_99 h, Z_99_0 h, Y_100 h, if_true]
  by_cases ok : (txR T l).1 = true
  · obtain ⟨y1, y2, y3, y4⟩ := z5 ok
    obtain ⟨k1, -, -, -⟩ := tx_ok ok hl
    have v0 : 0 ≤ v := by rw [y1]; exact (tx_n k1).2
    have b2 : F2 100 2 = nI t := by rw [z4 2 (by unfold baB; split <;> omega)]; exact ht
    have r2 : rdI (F2, J, σ) 100 2 = some (nI t) := by
      rw [show rdI (F2, J, σ) 100 2 = some (F2 100 2) from rd_k (i := 2) (Y_100 h) (by decide) (by decide), b2]
    rw [if_pos v0, r2, Option.bind_some, Option.bind_some, if_pos ok]
    by_cases c : t = 14
    · rw [if_pos (show nI t = 14 by rw [c]; rfl), if_pos c, if_neg (show ¬ ((txR T l).1 = true ∧ ¬ t = 14) from fun z => z.2 c)]
    · rw [if_neg (show ¬ nI t = 14 from fun z => c ((nI_eq (b := 14) (by omega) (by decide)).mp z)), if_neg c, if_pos (show (txR T l).1 = true ∧ ¬ t = 14 from ⟨ok, c⟩)]
      have e138 : cI 99 138 [.ref 99, .int (nI t)] (F2, J, σ) = some (nI (114 + 200 * t), (F2, J, σ)) := by
        refine i_138 ?_
        rw [q_138_0, show (200 : Int32) = nI 200 from rfl, pk_mul, show (114 : Int32) = nI 114 from rfl, nI_add]
      have p0 : nI (114 + 200 * t) + 0 = nI (114 + 200 * t) := by rw [show (0 : Int32) = nI 0 from rfl, nI_add]; rfl
      have p2 : nI (114 + 200 * t) + 2 = nI (114 + 200 * t + 2) := by rw [show (2 : Int32) = nI 2 from rfl, nI_add]
      have i2 : ix 2 = 2 := rfl
      rw [if_pos t99, e138, Option.bind_some]
      simp only [mS, mR, mF, Y_99 h, Z_99_0 h, Y_100 h, if_true, p0, p2, nI_s, i2, ix_nI (show 114 + 200 * t < 2 ^ 31 by omega), ix_nI (show 114 + 200 * t + 1 < 2 ^ 31 by omega), ix_nI (show 114 + 200 * t + 2 < 2 ^ 31 by omega), setF_up, up1_s, up1_up1, up1_ne F2 _ (show 99 ≠ 100 by decide)]
      rw [if_pos ⟨by trivial, inb_nI (by omega) (by decide)⟩, if_pos ⟨by trivial, inb_nI (by omega) (by decide)⟩, if_pos ⟨by trivial, inb_nI (by omega) (by decide)⟩]
      rw [show ∀ X : Nat → Nat → Int32, rdI (X, J, σ) 100 2 = some (X 100 2) from fun X => rd_k (i := 2) (Y_100 h) (by decide) (by decide), Option.bind_some, up1_s, up1_n _ _ (show 2 ≠ 114 + 200 * t + 2 by omega), up1_n _ _ (show 2 ≠ 114 + 200 * t + 1 by omega), up1_n _ _ (show 2 ≠ 114 + 200 * t by omega), b2, nI_s, if_pos ⟨by trivial, by decide⟩, show ∀ X : Nat → Nat → Int32, rdI (X, J, σ) 100 2 = some (X 100 2) from fun X => rd_k (i := 2) (Y_100 h) (by decide) (by decide), Option.bind_some, up1_s, up1_s, show nI (t + 1) - 1 = nI t by rw [show (1 : Int32) = nI 1 from rfl, pk_sub (by omega)]; rfl]
      rfl
  · obtain ⟨y1, y2⟩ := z6 ok
    rw [y1, if_neg (by decide), if_neg ok, if_neg (show ¬ ((txR T l).1 = true ∧ ¬ t = 14) from fun z => ok z.1), y2]
end OPX
