/-! A WORK, the class. -/
section WORKB
variable {L d : Nat} {F F' : Nat → Nat → Int32} {J : Nat → Nat → Int64} {σ : aSg} {μ : aMem} {s s' xs : Nat → Int32} {A ln wt W : Nat → Nat}
theorem c_work (h : Lay L σ) {p n m t : Nat} (hp : PL σ p) (hp2 : p + 17 < 55) (ta : TA σ p) (P : PR F p s n) (B : BR F p s m) (T : TR F σ p s t) (z : F p 6 = s 3) {x : Int32} (hx : 0 ≤ x ∧ x ≤ 2) : ∃ F', cV (d + 5) 65 [.ref 55, .ref p, .int x] (F, J, σ) = some (F', J, σ) ∧ (∀ b, b < p ∨ (p + 17 < b ∧ b < 55) ∨ 62 < b → F' b = F b) ∧ RW F' σ p (wkR s x) ∧ F' 55 8 = nI (sdN s) ∧ F' 55 9 = nI (wsN s) := by
  have n10 := P.1
  have R := RK_of P B T
  obtain ⟨en, em, et⟩ := RK_o R
  have t5 : True ∧ 55 < 999999 := ⟨trivial, by decide⟩
  have tb : True ∧ p + 2 < 999999 := ⟨trivial, by omega⟩
  obtain ⟨F1, a1, a2, a3⟩ := c_endSaid (d := d) (J := J) h hp hp2 ta P B T
  have hE := teN_le (A := aN s) (LW_s R)
  have hE2 := teN_le (A := aN s) (LW_w R)
  have esd : sdN s = mn9 (teN (aN s) (sN s m t) (wN s t) n) := by unfold sdN; rw [en, em, et]
  have ews : wsN s = mn9 (teN (aN s) (lW s) (wN s t) n) := by unfold wsN; rw [en, et]
  obtain ⟨F2, eF2⟩ : ∃ F2, F2 = up1 F1 55 (up1 (F1 55) 8 (nI (sdN s))) := ⟨_, rfl⟩
  have o2 : ∀ b, b < 55 ∨ 62 < b → F2 b = F b := fun b hb => by rw [eF2, up1_ne _ _ (by omega), a2 b (by omega)]
  have us : up1 s 3 (zs s 0) = s := up1_self s 3
  obtain ⟨F3, w', b1, b2, b3, b4, b5, b6, b7⟩ := c_workL (d := d + 4) (J := J) h hp hp2 R n 0 F2 x un (by rw [us]; exact PR_cg (fun a h1 h2 => o2 a (by omega)) (fun j _ => rfl) P) (by rw [us]; exact BR_cg (fun a h1 h2 => o2 a (by omega)) (fun j _ => rfl) B) (by rw [us]; exact TR_cg (fun a h1 h2 => o2 a (by omega)) (fun a h1 h2 => o2 a (by omega)) (fun j _ => rfl) T) (by rw [o2 p (by omega)]; exact z) (fun q hq => absurd hq (by omega)) (by omega)
  have R3 := RK_of b3 b4 b5
  obtain ⟨F4, d1, d2, d3⟩ := c_theEnd (d := d + 3) (J := J) h hp hp2 R3 (LW_w R) n 0 F3 b3 (fun q hq => ⟨b7 q hq, by rw [b2 57 (by omega) (by decide), eF2, up1_ne _ _ (by decide)]; exact (a3 q hq).1.2⟩) (fun q hq => absurd hq (by omega)) (by omega)
  rw [aN_z] at d1
  have c46 : cI (d + 4) 46 [.ref 55, .ref p] (F3, J, σ) = some (nI (teN (aN s) (lW s) (wN s t) n), (F4, J, σ)) := i_46 (d := d + 3) (by rw [q_46_0 (d + 3)]; exact d1)
  obtain ⟨F5, eF5⟩ : ∃ F5, F5 = up1 F4 55 (up1 (F4 55) 9 (nI (wsN s))) := ⟨_, rfl⟩
  have o5 : ∀ b, b ≠ 55 → b ≠ 58 → b ≠ 59 → F5 b = F3 b := fun b h1 h2 h3 => by rw [eF5, up1_ne _ _ h1, d2 b h2 h3]
  have f3 : F3 55 = F2 55 := b2 55 (by omega) (by decide)
  have f48 : F4 55 8 = nI (sdN s) := by rw [d2 55 (by decide) (by decide), f3, eF2, up1_s, up1_s]
  have P5 : PR F5 p (up1 s 3 (zs s n)) n := PR_cg (fun a h1 h2 => o5 a (by omega) (by omega) (by omega)) (fun j _ => rfl) b3
  have B5 : BR F5 p (up1 s 3 (zs s n)) m := BR_cg (fun a h1 h2 => o5 a (by omega) (by omega) (by omega)) (fun j _ => rfl) b4
  have T5 : TR F5 σ p (up1 s 3 (zs s n)) t := TR_cg (fun a h1 h2 => o5 a (by omega) (by omega) (by omega)) (fun a h1 h2 => o5 a (by omega) (by omega) (by omega)) (fun j _ => rfl) b5
  have hl : LnK x (nI (sdN s)) (nI (wsN s)) := ⟨hx, ⟨yle (a := 0) (by omega) (by have := mn9_le (teN (aN s) (sN s m t) (wN s t) n); omega), yle (b := 9999) (by rw [esd]; exact mn9_le _) (by decide)⟩, ⟨yle (a := 0) (by omega) (by have := mn9_le (teN (aN s) (lW s) (wN s t) n); omega), yle (b := 9999) (by rw [ews]; exact mn9_le _) (by decide)⟩⟩
  obtain ⟨F6, e1, e2, e3⟩ := c_addLine (d := d + 4) (J := J) hp B5 hl
  have z5 : F5 p 6 = up1 s 3 (zs s n) 3 := by rw [o5 p (by omega) (by omega) (by omega), up1_s]; exact b6
  refine ⟨F6, ?_, fun b hb => ?_, ?_, ?_, ?_⟩
  · refine i_65 (d := d + 4) (v := none) ?_
    rw [q_65_0 (d + 4)]
    simp only [mS, Y_55 h, if_pos t5, a1, Option.bind_some, if_true, mn9_c (show teN (aN s) (sN s m t) (wN s t) n < 2 ^ 31 by omega), ← esd, setF_up]
    rw [← eF2]
    refine (show _ = _ from b1).trans ?_
    rw [q_65_17 (d + 4)]
    simp only [mS, mR, mF, hp.y0, b3.2.2.1, if_true, Y_55 h, if_pos t5, c46, Option.bind_some, hp.z2, hp.y2, if_pos tb, mn9_c (show teN (aN s) (lW s) (wN s t) n < 2 ^ 31 by omega), ← ews, setF_up, up1_s, up1_n _ _ (show 8 ≠ 9 by decide), f48]
    rw [if_pos (Int32.le_refl _), ← eF5, e1]
    rfl
  · rw [e3 b (by omega), o5 b (by omega) (by omega) (by omega), b2 b (by omega) (by omega), o2 b (by omega)]
  · unfold wkR
    rw [en, em]
    exact RW_wr P5 T5 z5 e2 e3 (by omega) (fun j h1 h2 => wrS_0 B5.1 h1 h2)
  · rw [e3 55 (by omega), eF5, up1_s, up1_n _ _ (by decide)]; exact f48
  · rw [e3 55 (by omega), eF5, up1_s, up1_s]
end WORKB
