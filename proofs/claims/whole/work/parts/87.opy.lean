/-! TEXT: the pair of calls. -/
section OPY
variable {L d l B : Nat} {F F' : Nat → Nat → Int32} {J : Nat → Nat → Int64} {σ σ' : aSg} {μ : aMem} {T s s' xs : Nat → Int32} {S : PSt} {key : Int32}
theorem PR_2 {n : Nat} (h1 : F' 1 1 = F 1 1) (hF : ∀ a, 9 ≤ a → a ≤ 18 → F' a = F a) (hs : ∀ j, j < 114 → j ≠ 2 → s' j = s j) (P : PR F 1 s n) : PR F' 1 s' n := by
  obtain ⟨p1, p2, p3, p4, p5⟩ := P
  refine ⟨p1, (hs 0 (by omega) (by omega)).trans p2, h1.trans p3, fun k hk j hj => ?_, fun k hk => ?_⟩
  · rw [hF _ (by omega) (by omega), hs _ (by omega) (by omega)]; exact p4 k hk j hj
  · have := p5 k hk
    unfold PK at this ⊢
    rw [hs _ (by omega) (by omega), hs _ (by omega) (by omega), hs _ (by omega) (by omega), hs _ (by omega) (by omega), hs _ (by omega) (by omega)]
    exact this
theorem BR_2 {m : Nat} (hF : ∀ a, 3 ≤ a → a ≤ 6 → F' a = F a) (hs : ∀ j, j < 114 → j ≠ 2 → s' j = s j) (B : BR F 1 s m) : BR F' 1 s' m := by
  obtain ⟨p1, p2, p3, p4⟩ := B
  refine ⟨p1, (hs 1 (by omega) (by omega)).trans p2, by rw [hF (1 + 2) (by omega) (by omega)]; exact p3, fun i hi => ?_⟩
  have := p4 i hi
  rw [hF (1 + 3) (by omega) (by omega), hF (1 + 4) (by omega) (by omega), hF (1 + 5) (by omega) (by omega), hs _ (by omega) (by omega), hs _ (by omega) (by omega), hs _ (by omega) (by omega)]
  exact this
theorem rf_lt : ∀ t ∈ rfZ, t.1 < 124 := by decide +kernel
theorem Lay_N (h : Lay L σ) (hc : ∀ a, a ≠ σ.2.2.1 → a ≠ σ.2.2.1 + 1 → σ'.1 a = σ.1 a ∧ σ'.2.1 a = σ.2.1 a) (n : σ'.2.2.1 = σ.2.2.1 + 2) (hN : σ.2.2.1 < 800000) : Lay L σ' := by
  obtain ⟨h1, h2, h3, h4, h5, h6, h7, h8⟩ := h
  refine ⟨fun a ha => ?_, fun t ht => ?_, ?_, by omega, ?_, ?_, fun a q1 q2 => ?_, fun a q1 q2 => ?_⟩
  · rw [(hc a (by omega) (by omega)).2]; exact h1 a ha
  · have := rf_lt t ht
    rw [(hc t.1 (by omega) (by omega)).1]; exact h2 t ht
  · rw [(hc _ (by omega) (by omega)).2]; exact h3
  · rw [(hc _ (by omega) (by omega)).2]; exact h5
  · rw [(hc _ (by omega) (by omega)).2]; exact h6
  · rw [(hc _ (by omega) (by omega)).2]; exact h7 a q1 q2
  · rw [(hc _ (by omega) (by omega)).2]; exact h8 a (by omega) q2
theorem key3 {x : Int32} (h : x = 0 ∨ x = 1 ∨ x = 2) : ∃ k, k < 3 ∧ x = nI k := by
  rcases h with h | h | h
  · exact ⟨0, by decide, h⟩
  · exact ⟨1, by decide, h⟩
  · exact ⟨2, by decide, h⟩
theorem op_text : OpI (Inv L xs) 105 207 0 := op0 fun q F J σ hq I => by
  have h := I.lay
  have nn := I.nn
  have n124 := h.2.2.2.1
  obtain ⟨n, m, t, P, Bk, TT, zz⟩ := I.rw
  obtain ⟨l, l96, t7, t20, tt⟩ := I.tp
  have t14 := TT.1
  obtain ⟨F0, eF0⟩ : ∃ F0, F0 = up1 F 0 (up1 (F 0) 7 0) := ⟨_, rfl⟩
  have o0 : ∀ a, a ≠ 0 → F0 a = F a := fun a ha => by rw [eF0, up1_ne _ _ ha]
  obtain ⟨v, F1, a1, a2, a3, a4⟩ := c_readTape (F := F0) (J := J) (T := F 117) (D := 23) h l96 (fun i hi => by rw [o0 67 (by decide)]; exact (tt i hi).1)
  have o1 : ∀ a, a ≠ 0 → a ≠ 64 → a ≠ 65 → a ≠ 66 → F1 a = F a := fun a h0 h1 h2 h3 => by rw [a2 a h1 h2 h3, o0 a h0]
  have f0 : F1 0 = up1 (F 0) 7 0 := by rw [a2 0 (by decide) (by decide) (by decide), eF0, up1_s]
  have f14 : F1 1 4 = nI t := by rw [o1 1 (by decide) (by decide) (by decide) (by decide)]; exact TT.2.2.1
  have e0 := q_105_0 99 0 (F, J, σ)
  simp only [mS, mR, mF, Y_0 h, Z_0_5 h, Z_0_6 h, Y_64 h, t7, setF_up, if_true] at e0
  rw [if_pos t64, ← eF0, a1, Option.bind_some] at e0
  simp only [mS, mR, mF, Y_0 h, Z_0_0 h, Z_0_5 h, Y_1 h, Y_64 h, f14, if_true] at e0
  have same : ∀ v2 F2, paR (F 117) l (baB t) F1 F2 v2 → IV L xs (q + 1) F2 σ := fun v2 F2 pr => by
    obtain ⟨z1, z2, z3, z4, -, -⟩ := pr
    have o2 : ∀ a, a ≠ 99 → a ≠ 100 → a ≠ 0 → a ≠ 64 → a ≠ 65 → a ≠ 66 → F2 a = F a := fun a h1 h2 h3 h4 h5 h6 => by rw [z1 a h1 h2, o1 a h3 h4 h5 h6]
    have g0 : F2 0 = up1 (F 0) 7 0 := by rw [z1 0 (by decide) (by decide), f0]
    have g9 : ∀ j, j < 20 ∨ 30 < j → F2 99 j = F 99 j := fun j hj => by rw [z2 j hj, o1 99 (by decide) (by decide) (by decide) (by decide)]
    have g100 : ∀ j, j < 114 + 200 * t → F2 100 j = F 100 j := fun j hj => by rw [z4 j (by unfold baB; split <;> omega), o1 100 (by decide) (by decide) (by decide) (by decide)]
    refine IV_text I h (by omega) (by omega) (by omega) (fun x q1 q2 => ⟨o2 x (by omega) (by omega) (by omega) (by omega) (by omega) (by omega), rfl, rfl⟩) (fun a ha => o2 a (by omega) (by omega) (by omega) (by omega) (by omega) (by omega)) ⟨by rw [g0, up1_n _ _ (by decide)], by rw [g0, up1_n _ _ (by decide)], by rw [g0, up1_s]⟩ ⟨g9 3 (by decide), g9 36 (by decide), z3⟩ rfl ?_ I.ta.1 I.ta.2.1 I.ta.2.2
    exact ⟨n, m, t, PR_cg (fun a q1 q2 => o2 a (by omega) (by omega) (by omega) (by omega) (by omega) (by omega)) (fun j hj => g100 j (by omega)) P, BR_cg (fun a q1 q2 => o2 a (by omega) (by omega) (by omega) (by omega) (by omega) (by omega)) (fun j hj => g100 j (by omega)) Bk, TR_cg (fun a q1 q2 => o2 a (by omega) (by omega) (by omega) (by omega) (by omega) (by omega)) (fun a q1 q2 => o2 a (by omega) (by omega) (by omega) (by omega) (by omega) (by omega)) g100 TT, by rw [o2 1 (by decide) (by decide) (by decide) (by decide) (by decide) (by decide), g100 3 (by omega)]; exact zz⟩
  have mt := fun (X : Nat → Nat → Int32) (J1 : Nat → Nat → Int64) (σ1 : aSg) (h1 : Lay L σ1) (hX : ∀ a, a = 99 ∨ a = 100 ∨ a = 117 → X a = F a) => m_text (F := X) (J := J1) (σ := σ1) (T := F 117) (l := l) h1 l96 (fun i _ => by rw [hX 117 (by omega)]) (by rw [hX 99 (by omega)]; exact t20) t14 (by rw [hX 100 (by omega)]; exact TT.2.1)
  by_cases ok : (txR (F 117) l).1 = true
  · obtain ⟨v1, R⟩ := a3 ok
    obtain ⟨k3, okk, hg1, c96⟩ := tx_ok ok l96
    rw [v1, if_pos (by decide)] at e0
    by_cases c14 : t = 14
    · rw [if_neg (show ¬ nI t < 14 from nlt (b := 14) (by omega) (by omega))] at e0
      obtain ⟨v2, F2, pr, e2⟩ := mt F1 J σ h (fun a ha => o1 a (by omega) (by omega) (by omega) (by omega))
      rw [if_pos ok, if_pos c14, if_neg (fun z => z.2 c14)] at e2
      exact ⟨-1000000003, F1, J, σ, F2, J, σ, i_105 (d := 99) e0, h, o1 _ (by decide) (by decide) (by decide) (by decide), e2, same v2 F2 pr⟩
    · rw [if_pos (show nI t < 14 from ylt (b := 14) (by omega) (by decide)), if_pos t64, c_textRead (d := 98) h R c96 (by omega), Option.bind_some] at e0
      obtain ⟨kk, kk3, ek⟩ := key3 k3
      obtain ⟨S, eS⟩ : ∃ S, S = (txR (F 117) l).2 := ⟨_, rfl⟩
      rw [← eS] at R okk hg1 c96 e0
      obtain ⟨Fa, Ja, σa, b1, ⟨b2, b3⟩, b4, ⟨b5, b6, b7⟩, b8, b9, b10⟩ := tM3_f (F := F1) (J := J) (key := txK (F 117) l) (c := S.2.1.2) (o := nI S.2.1.1) h
      have ha : Lay L σa := Lay_N h (fun a q1 q2 => (b4 a q1 q2).2) b2 (by omega)
      have a14 : Fa 1 4 = nI t := by rw [(b4 1 (by omega) (by omega)).1]; exact f14
      dsimp only at e0
      rw [b1] at e0
      simp only [mS, Y_1 ha] at e0
      rw [if_pos ⟨by trivial, by decide⟩, c_addT ha (by omega) a14 b5 ⟨n124, by omega⟩ kk3 (b8.trans ek), Option.bind_some] at e0
      obtain ⟨Fb, eFb⟩ : ∃ Fb, Fb = up1 (up1 Fa 8 (up1 (Fa 8) kk (nI t))) 1 (up1 (Fa 1) 4 (nI (t + 1))) := ⟨_, rfl⟩
      obtain ⟨σb, eσb⟩ : ∃ σb : aSg, σb = (up1 σa.1 7 (up1 (σa.1 7) t σ.2.2.1), σa.2) := ⟨_, rfl⟩
      rw [← eFb, ← eσb] at e0
      have eb2 : σb.2 = σa.2 := by rw [eσb]
      have eb7 : σb.1 7 = up1 (σ.1 7) t σ.2.2.1 := by
        rw [eσb]
        show up1 σa.1 7 (up1 (σa.1 7) t σ.2.2.1) 7 = _
        rw [up1_s, (b4 7 (by omega) (by omega)).2.1]
      have ebn : ∀ a, a ≠ 7 → σb.1 a = σa.1 a := fun a ha => by
        rw [eσb]
        exact up1_n _ _ ha
      have hb : Lay L σb := Lay_R ha eb2 (fun a q1 _ _ => ebn a q1)
      have ob : ∀ a, a ≠ 1 → a ≠ 8 → a ≠ 0 → a ≠ 64 → a ≠ 65 → a ≠ 66 → a ≠ σ.2.2.1 → a ≠ σ.2.2.1 + 1 → Fb a = F a := fun a h1 h2 h3 h4 h5 h6 h7 h8 => by rw [eFb, up1_ne _ _ h1, up1_ne _ _ h2, (b4 a h7 h8).1, o1 a h3 h4 h5 h6]
      obtain ⟨v2, F2, pr, e2⟩ := mt Fb Ja σb hb (fun a ha => ob a (by omega) (by omega) (by omega) (by omega) (by omega) (by omega) (by omega) (by omega))
      rw [if_pos ok, if_neg c14, if_pos ⟨ok, c14⟩] at e2
      obtain ⟨z1, z2, z3, z4, z5, -⟩ := pr
      obtain ⟨y1, y2, y3, y4⟩ := z5 ok
      rw [← eS] at y2 y3 y4
      rw [y1, y2, y3] at e2
      have ebB : baB t = 118 + 200 * t := by unfold baB; rw [if_neg c14]
      rw [ebB] at z4 y4
      obtain ⟨sz, esz⟩ : ∃ sz, sz = rwT (F2 100) t (txK (F 117) l) (nI S.2.1.1) (nI S.2.1.2) := ⟨_, rfl⟩
      rw [← esz] at e2
      have shp : ∀ x, x ≠ σ.2.2.1 → x ≠ σ.2.2.1 + 1 → σb.2.1 x = σ.2.1 x := fun x q1 q2 => by rw [eb2]; exact (b4 x q1 q2).2.2
      have sb : ∀ j, j ≠ 2 → j ≠ 114 + 200 * t → j ≠ 114 + 200 * t + 1 → j ≠ 114 + 200 * t + 2 → sz j = F2 100 j := fun j h1 h2 h3 h4 => by
        rw [esz]
        unfold rwT
        rw [up1_n _ _ h1, up1_n _ _ h4, up1_n _ _ h3, up1_n _ _ h2]
      have s0 : sz (114 + 200 * t) = txK (F 117) l := by
        rw [esz]
        unfold rwT
        rw [up1_n _ _ (by omega), up1_n _ _ (by omega), up1_n _ _ (by omega), up1_s]
      have s1 : sz (114 + 200 * t + 1) = nI S.2.1.1 := by
        rw [esz]
        unfold rwT
        rw [up1_n _ _ (by omega), up1_n _ _ (by omega), up1_s]
      have s2 : sz (114 + 200 * t + 2) = nI S.2.1.2 := by
        rw [esz]
        unfold rwT
        rw [up1_n _ _ (by omega), up1_s]
      have sz2 : sz 2 = nI (t + 1) := by
        rw [esz]
        unfold rwT
        rw [up1_s]
      have slt : ∀ j, j < 114 + 200 * t → j ≠ 2 → sz j = F 100 j := fun j hj h2 => by
        rw [sb j h2 (by omega) (by omega) (by omega), z4 j (by omega), ob 100 (by decide) (by decide) (by decide) (by decide) (by decide) (by decide) (by omega) (by omega)]
      have scd : ∀ j, j < S.2.1.2 → sz (114 + 200 * t + 4 + 2 * j) = (S.2.2 j).1 ∧ sz (114 + 200 * t + 4 + 2 * j + 1) = (S.2.2 j).2 := fun j hj => by
        rw [sb _ (by omega) (by omega) (by omega) (by omega), sb _ (by omega) (by omega) (by omega) (by omega), show 114 + 200 * t + 4 + 2 * j = 118 + 200 * t + 2 * j by omega]
        exact y4 j hj
      have oz : ∀ a, a ≠ 99 → a ≠ 100 → up1 F2 100 sz a = Fb a := fun a h1 h2 => by rw [up1_ne _ _ h2, z1 a h1 h2]
      have g0 : up1 F2 100 sz 0 = up1 (F 0) 7 0 := by rw [oz 0 (by decide) (by decide), eFb, up1_ne _ _ (by decide), up1_ne _ _ (by decide), (b4 0 (by omega) (by omega)).1, f0]
      have g9 : ∀ j, j < 20 ∨ 30 < j → up1 F2 100 sz 99 j = F 99 j := fun j hj => by rw [up1_ne _ _ (show 99 ≠ 100 by decide), z2 j hj, ob 99 (by decide) (by decide) (by decide) (by decide) (by decide) (by decide) (by omega) (by omega)]
      have o3 : ∀ a, a ≠ 99 → a ≠ 100 → a ≠ 1 → a ≠ 8 → a ≠ 0 → a ≠ 64 → a ≠ 65 → a ≠ 66 → a ≠ σ.2.2.1 → a ≠ σ.2.2.1 + 1 → up1 F2 100 sz a = F a := fun a h1 h2 h3 h4 h5 h6 h7 h8 h9 h10 => by rw [oz a h1 h2, ob a h3 h4 h5 h6 h7 h8 h9 h10]
      have c1 : ∀ j, j ≠ 4 → up1 F2 100 sz 1 j = F 1 j := fun j hj => by rw [oz 1 (by decide) (by decide), eFb, up1_s, up1_n _ _ hj, (b4 1 (by omega) (by omega)).1, o1 1 (by decide) (by decide) (by decide) (by decide)]
      have c14' : up1 F2 100 sz 1 4 = nI (t + 1) := by rw [oz 1 (by decide) (by decide), eFb, up1_s, up1_s]
      have c8 : up1 F2 100 sz 8 = up1 (F 8) kk (nI t) := by rw [oz 8 (by decide) (by decide), eFb, up1_ne _ _ (by decide), up1_s, (b4 8 (by omega) (by omega)).1, o1 8 (by decide) (by decide) (by decide) (by decide)]
      have cN : up1 F2 100 sz σ.2.2.1 = Fa σ.2.2.1 := by rw [oz _ (by omega) (by omega), eFb, up1_ne _ _ (by omega), up1_ne _ _ (by omega)]
      have cN1 : up1 F2 100 sz (σ.2.2.1 + 1) = Fa (σ.2.2.1 + 1) := by rw [oz _ (by omega) (by omega), eFb, up1_ne _ _ (by omega), up1_ne _ _ (by omega)]
      have hcc : ∀ x, 124 ≤ x → x < σ.2.2.1 → up1 F2 100 sz x = F x ∧ σb.1 x = σ.1 x ∧ σb.2.1 x = σ.2.1 x := fun x q1 q2 => ⟨o3 x (by omega) (by omega) (by omega) (by omega) (by omega) (by omega) (by omega) (by omega) (by omega) (by omega), by rw [ebn x (by omega)]; exact (b4 x (by omega) (by omega)).2.1, shp x (by omega) (by omega)⟩
      have nb : σ.2.2.1 ≤ σb.2.2.1 := by rw [eb2]; omega
      have hk0 : 0 ≤ txK (F 117) l ∧ txK (F 117) l ≤ 2 := by rcases k3 with e | e | e <;> rw [e] <;> decide
      have tam : ∀ p, p = 1 ∨ p = 19 ∨ p = 37 → TA σ p → TA (σ.1, σb.2) p := fun p _ ht => TA_N h rfl (fun x hx => shp x (by omega) (by omega)) ht
      have hR : RW (up1 F2 100 sz) σb 1 sz := by
        refine ⟨n, m, t + 1, PR_2 (c1 1 (by decide)) (fun a q1 q2 => o3 a (by omega) (by omega) (by omega) (by omega) (by omega) (by omega) (by omega) (by omega) (by omega) (by omega)) (fun j hj h2 => slt j (by omega) h2) P, BR_2 (fun a q1 q2 => o3 a (by omega) (by omega) (by omega) (by omega) (by omega) (by omega) (by omega) (by omega) (by omega) (by omega)) (fun j hj h2 => slt j (by omega) h2) Bk, ⟨by omega, sz2, c14', fun i hi => ?_, fun k hk => ?_⟩, by rw [c1 6 (by decide), slt 3 (by omega) (by decide)]; exact zz⟩
        · show TX (up1 F2 100 sz) σb (σb.1 7 i) sz (114 + 200 * i)
          rw [eb7]
          by_cases ei : i = t
          · rw [ei, up1_s]
            refine ⟨S.2.1.2, TW_K (K := S.2.2) (by rw [s0]; exact hk0) s2 (by omega) (by rw [s0]; exact okk) hg1 scd, ⟨n124, by rw [eb2]; omega, by omega⟩, by rw [eb2]; exact b5, by rw [ebn _ (by omega)]; exact b6, by rw [eb2]; exact b7, by rw [cN, b8, s0], by rw [cN, b9, s1], fun j hj => ?_⟩
            rw [cN1, b10 j hj, s0, (scd j hj).1, (scd j hj).2]
            exact R.rc j hj
          · rw [up1_n _ _ ei]
            exact TX_N hcc nb (fun j hj => slt _ (by omega) (by omega)) (TT.2.2.2.1 i (by omega))
        · show up1 F2 100 sz 8 k = (if sz (114 + 200 * t) = nI k then nI t else cntS sz t (nI k))
          rw [c8, s0, ek, cntS_cg t (nI k) (fun i hi => slt _ (by omega) (by omega))]
          by_cases e : k = kk
          · rw [e, up1_s, if_pos rfl]
          · rw [up1_n _ _ e, if_neg (fun z => e ((nI_eq (by omega) (by omega)).mp z).symm)]
            exact TT.2.2.2.2 k hk
      refine ⟨nI t, Fb, Ja, σb, up1 F2 100 sz, Ja, σb, i_105 (d := 99) e0, hb, ob _ (by decide) (by decide) (by decide) (by decide) (by decide) (by decide) (by omega) (by omega), e2, ?_⟩
      refine IV_text I hb (by rw [eb2]; omega) (by rw [eb2]; omega) nb hcc (fun a ha => o3 a (by omega) (by omega) (by omega) (by omega) (by omega) (by omega) (by omega) (by omega) (by omega) (by omega)) ⟨by rw [g0, up1_n _ _ (by decide)], by rw [g0, up1_n _ _ (by decide)], by rw [g0, up1_s]⟩ ⟨g9 3 (by decide), g9 36 (by decide), by rw [up1_ne _ _ (show 99 ≠ 100 by decide)]; exact z3⟩ ?_ (by rw [up1_s]; exact hR) (fun i hi => ?_) (fun i hi => ?_) (fun i hi => ?_)
      · rw [ebn 25 (by decide)]; exact (b4 25 (by omega) (by omega)).2.1
      · show σb.1 7 i = 999999 ∨ (σb.1 7 i < 900000 ∧ (σb.2.1 (σb.1 7 i)).1 = 7)
        rw [eb7]
        by_cases ei : i = t
        · rw [ei, up1_s]
          exact Or.inr ⟨by omega, by rw [eb2, b5]⟩
        · rw [up1_n _ _ ei]
          exact tam 1 (Or.inl rfl) I.ta.1 i hi
      · show σb.1 25 i = 999999 ∨ (σb.1 25 i < 900000 ∧ (σb.2.1 (σb.1 25 i)).1 = 7)
        rw [ebn 25 (by decide), (b4 25 (by omega) (by omega)).2.1]
        exact tam 19 (Or.inr (Or.inl rfl)) I.ta.2.1 i hi
      · show σb.1 43 i = 999999 ∨ (σb.1 43 i < 900000 ∧ (σb.2.1 (σb.1 43 i)).1 = 7)
        rw [ebn 43 (by decide), (b4 43 (by omega) (by omega)).2.1]
        exact tam 37 (Or.inr (Or.inr rfl)) I.ta.2.2 i hi
  · have v1 := a4 ok
    have st0 : ¬ v < 0 := by
      rw [v1]
      have : (txR (F 117) l).2.1.2.1 ≤ l := tx_st
      exact nlt (b := 0) (by omega) (by omega)
    rw [if_neg st0, v1] at e0
    obtain ⟨v2, F2, pr, e2⟩ := mt F1 J σ h (fun a ha => o1 a (by omega) (by omega) (by omega) (by omega))
    rw [if_neg ok, if_neg (fun z => ok z.1)] at e2
    exact ⟨_, F1, J, σ, F2, J, σ, i_105 (d := 99) e0, h, o1 _ (by decide) (by decide) (by decide) (by decide), e2, same v2 F2 pr⟩
end OPY
