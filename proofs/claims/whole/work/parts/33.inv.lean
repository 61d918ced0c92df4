/-! THE INVARIANT. -/
section INVA
variable {L d : Nat} {F F' : Nat → Nat → Int32} {J : Nat → Nat → Int64} {σ : aSg} {μ : aMem} {s s' xs : Nat → Int32}
theorem S_z (h : Lay L σ) : ∀ i, i < 4 → σ.1 69 i = 70 + 2 * i
  | 0, _ => Z_69_0 h
  | 1, _ => Z_69_1 h
  | 2, _ => Z_69_2 h
  | 3, _ => Z_69_3 h
theorem S_y (h : Lay L σ) : ∀ i, i < 4 → σ.2.1 (70 + 2 * i) = (5, 3)
  | 0, _ => Y_70 h
  | 1, _ => Y_72 h
  | 2, _ => Y_74 h
  | 3, _ => Y_76 h
theorem S_c (h : Lay L σ) : ∀ i, i < 4 → σ.1 (70 + 2 * i) 0 = 71 + 2 * i
  | 0, _ => Z_70_0 h
  | 1, _ => Z_72_0 h
  | 2, _ => Z_74_0 h
  | 3, _ => Z_76_0 h
theorem S_yc (h : Lay L σ) : ∀ i, i < 4 → σ.2.1 (71 + 2 * i) = (10, 24)
  | 0, _ => Y_71 h
  | 1, _ => Y_73 h
  | 2, _ => Y_75 h
  | 3, _ => Y_77 h
theorem T_z (h : Lay L σ) : ∀ i, i < 5 → σ.1 78 i = 79 + 4 * i
  | 0, _ => Z_78_0 h
  | 1, _ => Z_78_1 h
  | 2, _ => Z_78_2 h
  | 3, _ => Z_78_3 h
  | 4, _ => Z_78_4 h
theorem T_y (h : Lay L σ) : ∀ i, i < 5 → σ.2.1 (79 + 4 * i) = (6, 4)
  | 0, _ => Y_79 h
  | 1, _ => Y_83 h
  | 2, _ => Y_87 h
  | 3, _ => Y_91 h
  | 4, _ => Y_95 h
theorem T_p (h : Lay L σ) : ∀ i, i < 5 → σ.1 (79 + 4 * i) 1 = 80 + 4 * i
  | 0, _ => Z_79_1 h
  | 1, _ => Z_83_1 h
  | 2, _ => Z_87_1 h
  | 3, _ => Z_91_1 h
  | 4, _ => Z_95_1 h
theorem T_r (h : Lay L σ) : ∀ i, i < 5 → σ.1 (79 + 4 * i) 2 = 81 + 4 * i
  | 0, _ => Z_79_2 h
  | 1, _ => Z_83_2 h
  | 2, _ => Z_87_2 h
  | 3, _ => Z_91_2 h
  | 4, _ => Z_95_2 h
theorem T_yp (h : Lay L σ) : ∀ i, i < 5 → σ.2.1 (80 + 4 * i) = (1, 5)
  | 0, _ => Y_80 h
  | 1, _ => Y_84 h
  | 2, _ => Y_88 h
  | 3, _ => Y_92 h
  | 4, _ => Y_96 h
theorem T_yr (h : Lay L σ) : ∀ i, i < 5 → σ.2.1 (81 + 4 * i) = (5, 3)
  | 0, _ => Y_81 h
  | 1, _ => Y_85 h
  | 2, _ => Y_89 h
  | 3, _ => Y_93 h
  | 4, _ => Y_97 h
theorem T_c (h : Lay L σ) : ∀ i, i < 5 → σ.1 (81 + 4 * i) 0 = 82 + 4 * i
  | 0, _ => Z_81_0 h
  | 1, _ => Z_85_0 h
  | 2, _ => Z_89_0 h
  | 3, _ => Z_93_0 h
  | 4, _ => Z_97_0 h
theorem T_yc (h : Lay L σ) : ∀ i, i < 5 → σ.2.1 (82 + 4 * i) = (10, 24)
  | 0, _ => Y_82 h
  | 1, _ => Y_86 h
  | 2, _ => Y_90 h
  | 3, _ => Y_94 h
  | 4, _ => Y_98 h
/-- a name of a key as the class writes it -/
def nmI (key v : Int32) : Int32 := if key = 0 then (if v = 103 then -1 else if v = 116 then -2 else -3) else if key = 1 then (if v = 110 then -1 else if v = 103 then -2 else -3) else (if v = 101 then -1 else -2)
abbrev isNm (key v : Int32) : Prop := (key = 0 ∧ (v = 103 ∨ v = 116 ∨ v = 102)) ∨ (key = 1 ∧ (v = 110 ∨ v = 103 ∨ v = 116)) ∨ (key = 2 ∧ (v = 101 ∨ v = 100))
def encI (key w v : Int32) : Int32 := if w = 0 then v else if w = 1 then nmI key v else -v
abbrev sgn (v : Int32) : Prop := v = 124 ∨ v = 38 ∨ v = 60 ∨ v = 61 ∨ v = 62 ∨ v = 43 ∨ v = 45 ∨ v = 42 ∨ v = 47
abbrev stOK (key w v : Int32) : Prop := (w = 0 ∧ 0 ≤ v ∧ v ≤ 9999) ∨ (w = 1 ∧ isNm key v) ∨ (w = 2 ∧ (v = 33 ∨ sgn v))
/-- how many numbers lie on the pile behind k steps -/
def hgt (s : Nat → Int32) (a : Nat) : Nat → Nat
  | 0 => 0
  | k + 1 => if s (a + 4 + 2 * k) = 2 then (if s (a + 4 + 2 * k + 1) = 33 then hgt s a k else hgt s a k - 1) else hgt s a k + 1
def TW (s : Nat → Int32) (a k : Nat) : Prop := (0 ≤ s a ∧ s a ≤ 2) ∧ s (a + 2) = nI k ∧ k ≤ 96 ∧ (∀ j, j < k → stOK (s a) (s (a + 4 + 2 * j)) (s (a + 4 + 2 * j + 1)) ∧ (s (a + 4 + 2 * j) = 2 → (if s (a + 4 + 2 * j + 1) = 33 then 1 else 2) ≤ hgt s a j)) ∧ hgt s a k = 1
def TX (F : Nat → Nat → Int32) (σ : aSg) (c : Nat) (s : Nat → Int32) (a : Nat) : Prop := ∃ k, TW s a k ∧ (124 ≤ c ∧ c + 1 < σ.2.2.1 ∧ c < 900000) ∧ σ.2.1 c = (7, 3) ∧ σ.1 c 2 = c + 1 ∧ σ.2.1 (c + 1) = (10, k) ∧ F c 0 = s a ∧ F c 1 = s (a + 1) ∧ ∀ j, j < k → F (c + 1) j = encI (s a) (s (a + 4 + 2 * j)) (s (a + 4 + 2 * j + 1))
/-- the last of t texts with that key, or -1 -/
def cntS (s : Nat → Int32) : Nat → Int32 → Int32
  | 0, _ => -1
  | t + 1, key => if s (114 + 200 * t) = key then nI t else cntS s t key
def TR (F : Nat → Nat → Int32) (σ : aSg) (p : Nat) (s : Nat → Int32) (t : Nat) : Prop := t ≤ 14 ∧ s 2 = nI t ∧ F p 4 = nI t ∧ (∀ i, i < t → TX F σ (σ.1 (p + 6) i) s (114 + 200 * i)) ∧ ∀ k, k < 3 → F (p + 7) k = cntS s t (nI k)
def TA (σ : aSg) (p : Nat) : Prop := ∀ i, i < 14 → σ.1 (p + 6) i = 999999 ∨ (σ.1 (p + 6) i < 900000 ∧ (σ.2.1 (σ.1 (p + 6) i)).1 = 7)
def RW (F : Nat → Nat → Int32) (σ : aSg) (p : Nat) (s : Nat → Int32) : Prop := ∃ n m t, PR F p s n ∧ BR F p s m ∧ TR F σ p s t ∧ F p 6 = s 3
abbrev VK (v : Int32) : Prop := v = -1000000005 ∨ (-99999 ≤ v ∧ v ≤ 99999)
def woI (k g t r : Int32) : Int32 := if k = 1 then g + t else if k = 2 then 50 - g else if k = 3 then 2 * (g + t) else if k = 4 then 50 - g + r else if k = 5 then 13 else g
def TPE (F : Nat → Nat → Int32) : Prop := ∃ l, l ≤ 96 ∧ F 0 7 = nI l ∧ F 99 20 = nI l ∧ ∀ i, i < l → F 67 i = F 117 i ∧ 0 ≤ F 117 i ∧ F 117 i ≤ 255
def WTE (F : Nat → Nat → Int32) : Prop := ∃ w, w ≤ 60 ∧ F 0 9 = nI w ∧ F 99 36 = nI w ∧ ∀ i, i < w → F 68 i = F 122 i
def SH (F : Nat → Nat → Int32) (i : Nat) : Prop := ∃ z, z ≤ 24 ∧ F (70 + 2 * i) 1 = F 103 i ∧ F (70 + 2 * i) 2 = nI z ∧ F 104 i = nI z ∧ (F 103 i = -1 ∨ F 103 i = 0 ∨ F 103 i = 1) ∧ ∀ j, j < 24 → F (71 + 2 * i) j = F 105 (24 * i + j) ∧ VK (F 105 (24 * i + j))
def SL (F : Nat → Nat → Int32) (i : Nat) : Prop := F (79 + 4 * i) 0 = F 106 i ∧ (0 ≤ F 106 i ∧ F 106 i ≤ 3) ∧ (F 106 i = 1 → F 107 i = F (80 + 4 * i) 0 ∧ (0 ≤ F 107 i ∧ F 107 i < 6) ∧ F 108 i = woI (F (80 + 4 * i) 0) (F (80 + 4 * i) 1) (F (80 + 4 * i) 2) (F (80 + 4 * i) 3)) ∧ (F 106 i = 2 → ∃ z, z ≤ 24 ∧ F (81 + 4 * i) 2 = nI z ∧ F 109 i = nI z ∧ ∀ j, j < 24 → F (82 + 4 * i) j = F 110 (24 * i + j)) ∧ (F 106 i = 3 → F (79 + 4 * i) 3 = F 107 i)
def IM (F : Nat → Nat → Int32) (σ : aSg) : Prop := F 0 3 = F 99 3 ∧ (F 99 3 = 0 ∨ F 99 3 = 1) ∧ (F 99 3 = 1 → RW F σ 19 (F 101))
def IV (L : Nat) (xs : Nat → Int32) (q : Nat) (F : Nat → Nat → Int32) (σ : aSg) : Prop := (Lay L σ ∧ F 1000014 = xs ∧ σ.2.2.1 ≤ 124 + 2 * q ∧ σ.2.2.2 ≤ 18424 + 200 * q) ∧ RW F σ 1 (F 100) ∧ IM F σ ∧ TPE F ∧ WTE F ∧ (∀ i, i < 4 → SH F i) ∧ (∀ i, i < 5 → SL F i) ∧ TA σ 1 ∧ TA σ 19 ∧ TA σ 37
def Inv (L : Nat) (xs : Nat → Int32) (q : Nat) (μ : aMem) : Prop := IV L xs q μ.1 μ.2.2
theorem IV.lay {q : Nat} (I : IV L xs q F σ) : Lay L σ := I.1.1
theorem IV.xz {q : Nat} (I : IV L xs q F σ) : F 1000014 = xs := I.1.2.1
theorem IV.nn {q : Nat} (I : IV L xs q F σ) : σ.2.2.1 ≤ 124 + 2 * q ∧ σ.2.2.2 ≤ 18424 + 200 * q := I.1.2.2
theorem IV.rw {q : Nat} (I : IV L xs q F σ) : RW F σ 1 (F 100) := I.2.1
theorem IV.im {q : Nat} (I : IV L xs q F σ) : IM F σ := I.2.2.1
theorem IV.tp {q : Nat} (I : IV L xs q F σ) : TPE F := I.2.2.2.1
theorem IV.wt {q : Nat} (I : IV L xs q F σ) : WTE F := I.2.2.2.2.1
theorem IV.sh {q : Nat} (I : IV L xs q F σ) : ∀ i, i < 4 → SH F i := I.2.2.2.2.2.1
theorem IV.sl {q : Nat} (I : IV L xs q F σ) : ∀ i, i < 5 → SL F i := I.2.2.2.2.2.2.1
theorem IV.ta {q : Nat} (I : IV L xs q F σ) : TA σ 1 ∧ TA σ 19 ∧ TA σ 37 := I.2.2.2.2.2.2.2
theorem IV.up {q : Nat} (I : IV L xs q F σ) : IV L xs (q + 1) F σ := ⟨⟨I.lay, I.xz, by have := I.nn; omega, by have := I.nn; omega⟩, I.2⟩
/-! what each depends on -/
theorem PR_cg {p n : Nat} (hF : ∀ a, p ≤ a → a ≤ p + 17 → F' a = F a) (hs : ∀ j, j < 114 → s' j = s j) (P : PR F p s n) : PR F' p s' n := by
  obtain ⟨p1, p2, p3, p4, p5⟩ := P
  refine ⟨p1, (hs 0 (by omega)).trans p2, by rw [hF p (by omega) (by omega)]; exact p3, fun k hk j hj => ?_, fun k hk => ?_⟩
  · rw [hF _ (by omega) (by omega), hs _ (by omega)]; exact p4 k hk j hj
  · have := p5 k hk
    unfold PK at this ⊢
    rw [hs _ (by omega), hs _ (by omega), hs _ (by omega), hs _ (by omega), hs _ (by omega)]
    exact this
theorem BR_cg {p m : Nat} (hF : ∀ a, p ≤ a → a ≤ p + 17 → F' a = F a) (hs : ∀ j, j < 114 → s' j = s j) (B : BR F p s m) : BR F' p s' m := by
  obtain ⟨p1, p2, p3, p4⟩ := B
  refine ⟨p1, (hs 1 (by omega)).trans p2, by rw [hF (p + 2) (by omega) (by omega)]; exact p3, fun i hi => ?_⟩
  have := p4 i hi
  rw [hF (p + 3) (by omega) (by omega), hF (p + 4) (by omega) (by omega), hF (p + 5) (by omega) (by omega), hs _ (by omega), hs _ (by omega), hs _ (by omega)]
  exact this
theorem hgt_cg {a : Nat} : ∀ k, (∀ j, j < 4 + 2 * k → s' (a + j) = s (a + j)) → hgt s' a k = hgt s a k
  | 0, _ => rfl
  | k + 1, hs => by
    unfold hgt
    rw [hgt_cg k (fun j hj => hs j (by omega)), show a + 4 + 2 * k = a + (4 + 2 * k) by omega, show a + (4 + 2 * k) + 1 = a + (5 + 2 * k) by omega, hs _ (by omega), hs _ (by omega)]
theorem TW_cg {a k : Nat} (hs : ∀ j, j < 200 → s' (a + j) = s (a + j)) (W : TW s a k) : TW s' a k := by
  obtain ⟨w1, w2, w3, w4, w5⟩ := W
  have h0 : s' a = s a := hs 0 (by omega)
  refine ⟨by rw [h0]; exact w1, (hs 2 (by omega)).trans w2, w3, fun j hj => ?_, ?_⟩
  · rw [h0, show a + 4 + 2 * j = a + (4 + 2 * j) by omega, show a + (4 + 2 * j) + 1 = a + (5 + 2 * j) by omega, hs _ (by omega), hs _ (by omega), hgt_cg j (fun i hi => hs i (by omega))]
    have := w4 j hj
    rw [show a + 4 + 2 * j = a + (4 + 2 * j) by omega, show a + (4 + 2 * j) + 1 = a + (5 + 2 * j) by omega] at this
    exact this
  · rw [hgt_cg k (fun i hi => hs i (by omega))]; exact w5
theorem TX_cg {c a : Nat} (hF : ∀ x, 124 ≤ x → x < 1000000 → F' x = F x) (hs : ∀ j, j < 200 → s' (a + j) = s (a + j)) (X : TX F σ c s a) : TX F' σ c s' a := by
  obtain ⟨k, W, ⟨c1, c2, c3⟩, y1, y2, y3, f1, f2, f3⟩ := X
  have h0 : s' a = s a := hs 0 (by omega)
  refine ⟨k, TW_cg hs W, ⟨c1, c2, c3⟩, y1, y2, y3, by rw [hF c c1 (by omega), h0]; exact f1, by rw [hF c c1 (by omega), hs 1 (by omega)]; exact f2, fun j hj => ?_⟩
  have hk := W.2.2.1
  rw [hF (c + 1) (by omega) (by omega), h0, show a + 4 + 2 * j = a + (4 + 2 * j) by omega, show a + (4 + 2 * j) + 1 = a + (5 + 2 * j) by omega, hs _ (by omega), hs _ (by omega)]
  have := f3 j hj
  rw [show a + 4 + 2 * j = a + (4 + 2 * j) by omega, show a + (4 + 2 * j) + 1 = a + (5 + 2 * j) by omega] at this
  exact this
theorem cntS_cg : ∀ t key, (∀ i, i < t → s' (114 + 200 * i) = s (114 + 200 * i)) → cntS s' t key = cntS s t key
  | 0, _, _ => rfl
  | t + 1, key, hs => by
    unfold cntS
    rw [cntS_cg t key (fun i hi => hs i (by omega)), hs t (by omega)]
theorem TR_cg {p t : Nat} (hF : ∀ a, p ≤ a → a ≤ p + 17 → F' a = F a) (hG : ∀ x, 124 ≤ x → x < 1000000 → F' x = F x) (hs : ∀ j, j < 114 + 200 * t → s' j = s j) (T : TR F σ p s t) : TR F' σ p s' t := by
  obtain ⟨t1, t2, t3, t4, t5⟩ := T
  refine ⟨t1, (hs 2 (by omega)).trans t2, by rw [hF p (by omega) (by omega)]; exact t3, fun i hi => TX_cg hG (fun j hj => hs _ (by omega)) (t4 i hi), fun k hk => ?_⟩
  rw [hF (p + 7) (by omega) (by omega), t5 k hk, cntS_cg t _ (fun i hi => hs _ (by omega))]
theorem RW_cg {p : Nat} (hF : ∀ a, p ≤ a → a ≤ p + 17 → F' a = F a) (hG : ∀ x, 124 ≤ x → x < 1000000 → F' x = F x) (hs : ∀ j, j < 2914 → s' j = s j) (R : RW F σ p s) : RW F' σ p s' := by
  obtain ⟨n, m, t, P, B, T, z⟩ := R
  exact ⟨n, m, t, PR_cg hF (fun j hj => hs j (by omega)) P, BR_cg hF (fun j hj => hs j (by omega)) B, TR_cg hF hG (fun j hj => hs j (by have := T.1; omega)) T, by rw [hF p (by omega) (by omega), hs 3 (by omega)]; exact z⟩
abbrev kpt (a : Nat) : Prop := a = 0 ∨ (19 ≤ a ∧ a ≤ 36) ∨ (67 ≤ a ∧ a ≤ 98) ∨ a = 101 ∨ (103 ≤ a ∧ a ≤ 110) ∨ a = 117 ∨ a = 122 ∨ 124 ≤ a
abbrev k99 (F' F : Nat → Nat → Int32) : Prop := F' 99 3 = F 99 3 ∧ F' 99 20 = F 99 20 ∧ F' 99 36 = F 99 36
theorem IV_row {q : Nat} (I : IV L xs q F σ) (hF : ∀ a, kpt a → F' a = F a) (h9 : k99 F' F) (hR : RW F' σ 1 (F' 100)) : IV L xs (q + 1) F' σ := by
  obtain ⟨e3, e20, e36⟩ := h9
  refine ⟨⟨I.lay, by rw [hF 1000014 (by omega)]; exact I.xz, by have := I.nn; omega, by have := I.nn; omega⟩, hR, ?_, ?_, ?_, ?_, ?_, I.ta⟩
  · obtain ⟨i1, i2, i3⟩ := I.im
    unfold IM
    rw [hF 0 (by omega), hF 101 (by omega), e3]
    exact ⟨i1, i2, fun e => RW_cg (fun a h1 h2 => hF a (by omega)) (fun a h1 h2 => hF a (by omega)) (fun j hj => rfl) (i3 e)⟩
  · obtain ⟨l, t⟩ := I.tp
    refine ⟨l, ?_⟩
    rw [hF 0 (by omega), e20, hF 67 (by omega), hF 117 (by omega)]
    exact t
  · obtain ⟨l, t⟩ := I.wt
    refine ⟨l, ?_⟩
    rw [hF 0 (by omega), e36, hF 68 (by omega), hF 122 (by omega)]
    exact t
  · intro i hi
    have := I.sh i hi
    unfold SH at this ⊢
    rw [hF (70 + 2 * i) (by omega), hF (71 + 2 * i) (by omega), hF 103 (by omega), hF 104 (by omega), hF 105 (by omega)]
    exact this
  · intro i hi
    have := I.sl i hi
    unfold SL at this ⊢
    rw [hF (79 + 4 * i) (by omega), hF (80 + 4 * i) (by omega), hF (81 + 4 * i) (by omega), hF (82 + 4 * i) (by omega), hF 106 (by omega), hF 107 (by omega), hF 108 (by omega), hF 109 (by omega), hF 110 (by omega)]
    exact this
theorem Inv_Bs {q : Nat} (I : Inv L xs q μ) : Bs L xs q μ := ⟨I.lay.2.2.1, I.xz, congrArg Prod.fst (Y_0 I.lay), I.nn.1, I.nn.2⟩
end INVA
