theorem lt_6 {P : Nat → Prop} (h0 : P 0) (h1 : P 1) (h2 : P 2) (h3 : P 3) (h4 : P 4) (h5 : P 5) : ∀ i, i < 6 → P i := by
  intro i hi
  rcases (show i = 0 ∨ i = 1 ∨ i = 2 ∨ i = 3 ∨ i = 4 ∨ i = 5 by omega) with rfl | rfl | rfl | rfl | rfl | rfl
  · exact h0
  · exact h1
  · exact h2
  · exact h3
  · exact h4
  · exact h5
def tmS (i : Nat) : Term := .string "ElevenParts$Reader" (sIx.getD i 0)
theorem arr_i {s : State} {A : Array Value} {ty : FieldType} (h : (Cond.arrayClass ty).before A s = true) : ∃ cA, s.vm.findClass ("[" ++ ty.toString) = some cA ∧ ArrOfT s cA ty := by
  obtain ⟨c, k, comp, h1, h2, h3⟩ := Cond.arrayClass_spec h
  exact ⟨c, h1, fun n z => ⟨fun k h => (by cases h), k, h2, comp, h3⟩⟩
theorem arr_q {s : State} {A : Array Value} {C : String} (h : (Cond.arrayOver (.object C)).before A s = true) : ∃ cA, va_RA s cA (.object C) ∧ ArrOfT s cA (.object C) := by
  obtain ⟨comp, c, k, h1, h2, h3, h4, h5⟩ := Cond.arrayOver_spec h
  exact ⟨c, ⟨k, comp, h3, h4, h1, h5⟩, fun n z => ⟨fun k h => (by cases h), k, h3, comp, h4⟩⟩
def svG (tC tA b : Nat) (adK adV : Nat → Nat) (fv : Value) (a : Nat) : Value := if a = 1000000 then .ref tC else if a = 1000001 then .ref tA else if 1000002 ≤ a ∧ a < 1000008 then .ref (adK (a - 1000002)) else if 1000008 ≤ a ∧ a < 1000014 then .ref (adV (a - 1000008)) else if a = 1000014 then .ref b else if a = 1000015 then fv else .null
def csG (c0 c1 c2 c3 c4 c5 : ClassId) (k : Nat) : ClassId := if k = 10 then c0 else if k = 11 then c1 else if k = 12 then c2 else if k = 13 then c3 else if k = 14 then c4 else c5
set_option maxHeartbeats 4000000 in
set_option maxRecDepth 100000 in
theorem ks_start {s : State} {b L : Nat} {xs : Nat → Int32} (hts : ∀ w ∈ lw_tbl, w.before #[Value.ref b] s = true) (hgv : (Jvm.Cond.and given_1 narrow_1).before #[Value.ref b] s = true) (hX : va_X b L xs s s.heap) (hbl : b < s.heap.size) : ∃ G : gG, gB G = s.heap.size ∧ gX G = L ∧ gS G = xs ∧ gV G 1000014 = .ref b ∧ KS G s := by
  have hs := flat_of_before _ hgv
  have hA : ∀ a : Nat, a < s.heap.size → ¬ (fun q : Nat => s.heap.size ≤ q) a := fun a h => Nat.not_le.mpr h
  obtain ⟨c0, i0, k0⟩ := u_known (C := RX0) (T := TX0) (N := 4) (n := 4) hts (fun w h => (List.mem_filter.mp (inG0 w h)).1) (hts _ (List.mem_of_getElem? (i := 108) (by decide +kernel)))
  obtain ⟨c1, i1, k1⟩ := u_known (C := RX1) (T := TX1) (N := 5) (n := 5) hts (fun w h => (List.mem_filter.mp (inG1 w h)).1) (hts _ (List.mem_of_getElem? (i := 130) (by decide +kernel)))
  obtain ⟨c2, i2, k2⟩ := u_known (C := RX2) (T := TX2) (N := 7) (n := 7) hts (fun w h => (List.mem_filter.mp (inG2 w h)).1) (hts _ (List.mem_of_getElem? (i := 100) (by decide +kernel)))
  obtain ⟨c3, i3, k3⟩ := u_known (C := RX3) (T := TX3) (N := 10) (n := 10) hts (fun w h => (List.mem_filter.mp (inG3 w h)).1) (hts _ (List.mem_of_getElem? (i := 241) (by decide +kernel)))
  obtain ⟨c4, i4, k4⟩ := u_known (C := RX4) (T := TX4) (N := 10) (n := 10) hts (fun w h => (List.mem_filter.mp (inG4 w h)).1) (hts _ (List.mem_of_getElem? (i := 201) (by decide +kernel)))
  obtain ⟨c5, i5, k5⟩ := u_known (C := RX5) (T := TX5) (N := 3) (n := 3) hts (fun w h => (List.mem_filter.mp (inG5 w h)).1) (hts _ (List.mem_of_getElem? (i := 279) (by decide +kernel)))
  obtain ⟨c6, i6, k6⟩ := u_known (C := RX6) (T := TX6) (N := 4) (n := 4) hts (fun w h => (List.mem_filter.mp (inG6 w h)).1) (hts _ (List.mem_of_getElem? (i := 299) (by decide +kernel)))
  obtain ⟨c7, i7, k7⟩ := u_known (C := RX7) (T := TX7) (N := 3) (n := 3) hts (fun w h => (List.mem_filter.mp (inG7 w h)).1) (hts _ (List.mem_of_getElem? (i := 858) (by decide +kernel)))
  obtain ⟨c8, i8, k8⟩ := u_known (C := RX8) (T := TX8) (N := 12) (n := 12) hts (fun w h => (List.mem_filter.mp (inG8 w h)).1) (hts _ (List.mem_of_getElem? (i := 92) (by decide +kernel)))
  obtain ⟨c9, i9, k9⟩ := u_known (C := RX9) (T := TX9) (N := 38) (n := 38) hts (fun w h => (List.mem_filter.mp (inG9 w h)).1) (hts _ (List.mem_of_getElem? (i := 1050) (by decide +kernel)))
  obtain ⟨dC, dI, hKc⟩ : ∃ (dC : Nat → ClassId) (dI : Nat → Nat → Nat), ∀ (k : Nat) (q : vw_C), vwCl[k]? = some q → u_Kn s q.1 q.2.1 q.2.2 (dC k) (dI k) := by
    refine ⟨fun k => [c0, c1, c2, c3, c4, c5, c6, c7, c8, c9].getD k c0, fun k => [i0, i1, i2, i3, i4, i5, i6, i7, i8, i9].getD k i0, ?_⟩
    intro k q hq
    match k, hq with
    | 0, hq => cases hq; exact k0
    | 1, hq => cases hq; exact k1
    | 2, hq => cases hq; exact k2
    | 3, hq => cases hq; exact k3
    | 4, hq => cases hq; exact k4
    | 5, hq => cases hq; exact k5
    | 6, hq => cases hq; exact k6
    | 7, hq => cases hq; exact k7
    | 8, hq => cases hq; exact k8
    | 9, hq => cases hq; exact k9
    | k + 10, hq => simp [vwCl] at hq
  obtain ⟨a0, f0, g0⟩ := arr_i (ty := .int) (hts _ (List.mem_of_getElem? (i := 127) (by decide +kernel)))
  obtain ⟨a1, f1, g1⟩ := arr_i (ty := .long) (hts _ (List.mem_of_getElem? (i := 239) (by decide +kernel)))
  have ao0 : (Cond.arrayOver (.object RX1)).before #[Value.ref b] s = true := (hts _ (List.mem_of_getElem? (i := 106) (by decide +kernel)))
  obtain ⟨a2, f2, g2⟩ := arr_q ao0
  have ao1 : (Cond.arrayOver (.object RX5)).before #[Value.ref b] s = true := (hts _ (List.mem_of_getElem? (i := 278) (by decide +kernel)))
  obtain ⟨a3, f3, g3⟩ := arr_q ao1
  have ao2 : (Cond.arrayOver (.object RX6)).before #[Value.ref b] s = true := (hts _ (List.mem_of_getElem? (i := 298) (by decide +kernel)))
  obtain ⟨a4, f4, g4⟩ := arr_q ao2
  have ao3 : (Cond.arrayOver (.object RX7)).before #[Value.ref b] s = true := (hts _ (List.mem_of_getElem? (i := 129) (by decide +kernel)))
  obtain ⟨a5, f5, g5⟩ := arr_q ao3
  obtain ⟨tC, eC, vC⟩ := va_Tof (tm := .static "ElevenParts" "CARDS" "[I") (ty := .int) (N := 10) (f := fun j => .int (sCards.getD j 0)) (by decide) (hs _ (by decide +kernel)) (va_eqt (hs _ (by decide +kernel))) (fun j hj => by
    rcases (show j = 0 ∨ j = 1 ∨ j = 2 ∨ j = 3 ∨ j = 4 ∨ j = 5 ∨ j = 6 ∨ j = 7 ∨ j = 8 ∨ j = 9 by omega) with rfl | rfl | rfl | rfl | rfl | rfl | rfl | rfl | rfl | rfl <;> exact va_eqt (hs _ (by decide +kernel))) hA
  obtain ⟨tA, eA, vA⟩ := va_Tof (tm := .static "ElevenParts" "ABOVE" "[I") (ty := .int) (N := 6) (f := fun j => .int (sAbove.getD j 0)) (by decide) (hs _ (by decide +kernel)) (va_eqt (hs _ (by decide +kernel))) (fun j hj => by
    rcases (show j = 0 ∨ j = 1 ∨ j = 2 ∨ j = 3 ∨ j = 4 ∨ j = 5 by omega) with rfl | rfl | rfl | rfl | rfl | rfl <;> exact va_eqt (hs _ (by decide +kernel))) hA
  have zC := va_Zof (hts _ (List.mem_of_getElem? (i := 426) (by decide +kernel))) (hts _ (List.mem_of_getElem? (i := 72) (by decide +kernel))) eC hA
  have zA := va_Zof (hts _ (List.mem_of_getElem? (i := 483) (by decide +kernel))) (hts _ (List.mem_of_getElem? (i := 72) (by decide +kernel))) eA hA
  have zS := va_Zof (C := "java/lang/String") (n := "COMPACT_STRINGS") (d := "Z") (hts _ (List.mem_of_getElem? (i := 718) (by decide +kernel))) (hts _ (List.mem_of_getElem? (i := 85) (by decide +kernel))) (va_eqi (z := 1) (hs _ (by decide +kernel))) hA
  have hf : (Cond.isRef (.static "jdk/internal/util/Preconditions" "SIOOBE_FORMATTER" "Ljava/util/function/BiFunction;")).before #[Value.ref b] s = true := hs _ (by decide +kernel)
  obtain ⟨fv, eF, hfv⟩ : ∃ fv, (Term.static "jdk/internal/util/Preconditions" "SIOOBE_FORMATTER" "Ljava/util/function/BiFunction;").eval #[Value.ref b] s none [] s = some fv ∧ (fv = .null ∨ ∃ q, fv = .ref q) := by
    cases hv : (Term.static "jdk/internal/util/Preconditions" "SIOOBE_FORMATTER" "Ljava/util/function/BiFunction;").eval #[Value.ref b] s none [] s with
    | none => simp [Cond.before, Cond.holds, Cond.value, hv] at hf
    | some w => cases w <;> simp [Cond.before, Cond.holds, Cond.value, hv] at hf ⊢
  have zF := va_Zof (hts _ (List.mem_of_getElem? (i := 734) (by decide +kernel))) (hts _ (List.mem_of_getElem? (i := 87) (by decide +kernel))) eF hA
  obtain ⟨adK, adV, hV, hE⟩ := vk_Sof (args := #[Value.ref b]) (s := s) (N := 6) (tm := tmS) (len := sTx.map List.length) (byt := sTx) (A := fun q : Nat => s.heap.size ≤ q) (by decide) (lt_6 (hs _ (by decide +kernel)) (hs _ (by decide +kernel)) (hs _ (by decide +kernel)) (hs _ (by decide +kernel)) (hs _ (by decide +kernel)) (hs _ (by decide +kernel))) (lt_6 (hs _ (by decide +kernel)) (hs _ (by decide +kernel)) (hs _ (by decide +kernel)) (hs _ (by decide +kernel)) (hs _ (by decide +kernel)) (hs _ (by decide +kernel))) (lt_6 (hs _ (by decide +kernel)) (hs _ (by decide +kernel)) (hs _ (by decide +kernel)) (hs _ (by decide +kernel)) (hs _ (by decide +kernel)) (hs _ (by decide +kernel))) (lt_6 (hs _ (by decide +kernel)) (hs _ (by decide +kernel)) (hs _ (by decide +kernel)) (hs _ (by decide +kernel)) (hs _ (by decide +kernel)) (hs _ (by decide +kernel)))
    (fun i hi j hj => by
      rcases (show i = 0 ∨ i = 1 ∨ i = 2 ∨ i = 3 ∨ i = 4 ∨ i = 5 by omega) with rfl | rfl | rfl | rfl | rfl | rfl
      · rcases (show j = 0 ∨ j = 1 ∨ j = 2 by have : j < 3 := hj; omega) with rfl | rfl | rfl <;> exact hs _ (by decide +kernel)
      · rcases (show j = 0 ∨ j = 1 ∨ j = 2 ∨ j = 3 by have : j < 4 := hj; omega) with rfl | rfl | rfl | rfl <;> exact hs _ (by decide +kernel)
      · rcases (show j = 0 ∨ j = 1 ∨ j = 2 ∨ j = 3 by have : j < 4 := hj; omega) with rfl | rfl | rfl | rfl <;> exact hs _ (by decide +kernel)
      · rcases (show j = 0 ∨ j = 1 ∨ j = 2 by have : j < 3 := hj; omega) with rfl | rfl | rfl <;> exact hs _ (by decide +kernel)
      · rcases (show j = 0 ∨ j = 1 ∨ j = 2 by have : j < 3 := hj; omega) with rfl | rfl | rfl <;> exact hs _ (by decide +kernel)
      · rcases (show j = 0 ∨ j = 1 by have : j < 2 := hj; omega) with rfl | rfl <;> exact hs _ (by decide +kernel))
    (fun i j hi hj hij => by
      rcases (show i = 0 ∨ i = 1 ∨ i = 2 ∨ i = 3 ∨ i = 4 ∨ i = 5 by omega) with rfl | rfl | rfl | rfl | rfl | rfl <;>
      rcases (show j = 0 ∨ j = 1 ∨ j = 2 ∨ j = 3 ∨ j = 4 ∨ j = 5 by omega) with rfl | rfl | rfl | rfl | rfl | rfl <;>
      first | exact absurd rfl hij | exact Or.inl (hs _ (by decide +kernel)) | exact Or.inr (hs _ (by decide +kernel))) hA
  obtain ⟨scr, x1, x2, x3, x4, x5⟩ := hX
  refine ⟨(s.heap.size, svG tC tA b adK adV fv, dC, dI, csG a0 a1 a2 a3 a4 a5, L, xs), rfl, rfl, rfl, rfl, ?_⟩
  refine ⟨fun a => ?_, ⟨hKc, fun k q hq => ?_⟩, ⟨ao0, ao1, ao2, ao3⟩, fun q hq => ?_, fun q hq => ?_, ⟨zC, zA, zS, zF⟩, fun a ha => ?_, fun i hi => ?_, b, rfl, scr, x1, x2, x3, Nat.le_of_eq x4.symm, by rw [x4] <;> rfl, fun j hj => x5 j hj, hA b hbl⟩
  · show svG tC tA b adK adV fv a = .null ∨ ∃ q, svG tC tA b adK adV fv a = .ref q
    unfold svG
    repeat' split
    all_goals first | exact Or.inr ⟨_, rfl⟩ | exact hfv | exact Or.inl rfl
  · match k, hq with
    | 0, hq => cases hq; exact ⟨g0, f0⟩
    | 1, hq => cases hq; exact ⟨g1, f1⟩
    | 2, hq => cases hq; exact ⟨g2, f2⟩
    | 3, hq => cases hq; exact ⟨g3, f3⟩
    | 4, hq => cases hq; exact ⟨g4, f4⟩
    | 5, hq => cases hq; exact ⟨g5, f5⟩
    | k + 6, hq => simp [tyK] at hq
  · have key : ∀ q ∈ nsM, (Cond.methodLinkNest q.1 q.2.1 q.2.2 "ElevenParts").before #[Value.ref b] s = true := by
      intro q hq
      simp only [nsM, List.mem_cons, List.not_mem_nil, or_false] at hq
      rcases hq with rfl | rfl | rfl | rfl | rfl | rfl | rfl | rfl | rfl | rfl
      · exact (hts _ (List.mem_of_getElem? (i := 109) (by decide +kernel)))
      · exact (hts _ (List.mem_of_getElem? (i := 131) (by decide +kernel)))
      · exact (hts _ (List.mem_of_getElem? (i := 202) (by decide +kernel)))
      · exact (hts _ (List.mem_of_getElem? (i := 242) (by decide +kernel)))
      · exact (hts _ (List.mem_of_getElem? (i := 280) (by decide +kernel)))
      · exact (hts _ (List.mem_of_getElem? (i := 300) (by decide +kernel)))
      · exact (hts _ (List.mem_of_getElem? (i := 305) (by decide +kernel)))
      · exact (hts _ (List.mem_of_getElem? (i := 307) (by decide +kernel)))
      · exact (hts _ (List.mem_of_getElem? (i := 408) (by decide +kernel)))
      · exact (hts _ (List.mem_of_getElem? (i := 418) (by decide +kernel)))
    exact va_Nw.of rfl (key q hq)
  · have key : ∀ q ∈ nsF, (Cond.fieldLinkNest q.1 q.2.1 "ElevenParts" q.2.2 "[I" "ElevenParts").before #[Value.ref b] s = true := by
      intro q hq
      simp only [nsF, List.mem_cons, List.not_mem_nil, or_false] at hq
      rcases hq with rfl | rfl | rfl
      · exact (hts _ (List.mem_of_getElem? (i := 425) (by decide +kernel)))
      · exact (hts _ (List.mem_of_getElem? (i := 482) (by decide +kernel)))
      · exact (hts _ (List.mem_of_getElem? (i := 965) (by decide +kernel)))
    exact va_Nw.of rfl (key q hq)
  · rcases ha with rfl | rfl
    · exact ⟨tC, rfl, vC⟩
    · exact ⟨tA, rfl, vA⟩
  · refine ⟨adK i, adV i, ?_, ?_, ?_, (hV.1 i hi).1, (hV.1 i hi).2.1, (hV.1 i hi).2.2.1, ?_⟩
    · show svG tC tA b adK adV fv (1000002 + i) = _
      unfold svG
      rw [if_neg (by omega), if_neg (by omega), if_pos ⟨by omega, by omega⟩, Nat.add_sub_cancel_left]
    · show svG tC tA b adK adV fv (1000008 + i) = _
      unfold svG
      rw [if_neg (by omega), if_neg (by omega), if_neg (by omega), if_pos ⟨by omega, by omega⟩, Nat.add_sub_cancel_left]
    · have e := hE i hi
      revert e
      revert i
      exact lt_6 (fun e => vk_R.of (hts _ (List.mem_of_getElem? (i := 704) (by decide +kernel))) e) (fun e => vk_R.of (hts _ (List.mem_of_getElem? (i := 757) (by decide +kernel))) e) (fun e => vk_R.of (hts _ (List.mem_of_getElem? (i := 758) (by decide +kernel))) e) (fun e => vk_R.of (hts _ (List.mem_of_getElem? (i := 783) (by decide +kernel))) e) (fun e => vk_R.of (hts _ (List.mem_of_getElem? (i := 784) (by decide +kernel))) e) (fun e => vk_R.of (hts _ (List.mem_of_getElem? (i := 785) (by decide +kernel))) e)
    · have e := (hV.1 i hi).2.2.2
      have el : (sTx.map List.length).getD i 0 = (sTx.getD i []).length := by
        rcases (show i = 0 ∨ i = 1 ∨ i = 2 ∨ i = 3 ∨ i = 4 ∨ i = 5 by omega) with rfl | rfl | rfl | rfl | rfl | rfl <;> rfl
      rw [el] at e
      exact e
def mem0 (L : Nat) (xs : Nat → Int32) : aMem := (fun a => if a = 1000014 then xs else fun _ => 0, fun _ _ => 0, fun _ _ => 999999, fun a => if a = 1000014 then (18, L) else (99, 0), 0, 0)
theorem wf_mem0 {G : gG} : wfM G (mem0 (gX G) (gS G)) := by
  refine ⟨Nat.zero_le _, fun a h => absurd h (Nat.not_lt_zero a), fun a _ h => ?_, rfl, fun j => rfl, fun a k => Nat.le_refl _⟩
  show 20 ≤ (if a = 1000014 then ((18 : Nat), gX G) else (99, 0)).1
  rw [if_neg h]
  decide
theorem W_mono {p : Program} {l : Launch} {e : Env} {R : Room} {s : State} {m : MethodId} {args : Array Value} {below : List Frame} {meth : Method} {c : Code} {H : Heap} {locs : List Loc} {cells slots : Nat} {Q Q' : State → Prop} {g : JFrame} (h : ∀ t, Q t → Q' t) (k : W p l e R s m args below meth c H locs cells slots Q g) : W p l e R s m args below meth c H locs cells slots Q' g := fun T hT X => by
  obtain ⟨t, a, b⟩ := k T hT X
  exact ⟨t, a, h t b⟩
def R_law : String := "ElevenPartsLaw"
def lw_P (b : Addr) (xs : List Int32) (args : Array Value) (s : State) : Prop := args = #[.ref b] ∧ s.IntsAt b xs ∧ xs.length ≤ 384 ∧ (Jvm.Cond.and given_1 narrow_1).before args s = true
def lw_Q (_ : Array Value) (s : State) (o : Outcome) (t : State) : Prop := o = .returned (some (.int 1)) ∧ Framed s o t [] 600000 7302250
def lw_Z (below : List Frame) (a : Array Value) (s : State) : State → Prop := fun t => ∃ o, t.status = .running ∧ Ended t below o ∧ lw_Q a s o t
def lw_At (p : Program) (s : State) (m : MethodId) (meth : Method) (c : Code) (b L : Nat) (xs : Nat → Int32) : Prop :=
  p.tables.exec = Jvm.exec ∧ c.code = code ∧ meth.sig.returnType = ret ∧ c.maxLocals = 4 ∧ s.vm.findClass R_law = some m.cls ∧ (∀ w ∈ lw_tbl, w.before #[Value.ref b] s = true) ∧ va_X b L xs s s.heap ∧ b < s.heap.size ∧ meth.locks = false ∧ (Jvm.Cond.and given_1 narrow_1).before #[Value.ref b] s = true
/-- what is left to show of the program: the abstract law answers 1 on every script, within the room -/
def LawOK : Prop := ∀ (L : Nat) (xs : Nat → Int32), L ≤ 384 → ∃ (d : Nat) (μ1 : aMem), d ≤ 1000 ∧ Rn d 246 (0, [.ref 1000014, un, un, un], [], mem0 L xs) = some (some (.int 1), μ1) ∧ mN μ1 ≤ 600000 ∧ mL μ1 ≤ 7302250
theorem start_of (hlaw : LawOK) {p : Program} {e : Env} {s : State} {m : MethodId} {below : List Frame} {meth : Method} {c : Code} (l : Launch) {b L : Nat} {xs : Nat → Int32} (hL : L ≤ 384) (hnm : meth.name = "law") (C0 : lw_At p s m meth c b L xs) : W p l e room_1 s m #[Value.ref b] below meth c s.heap [] 0 0 (lw_Z below #[Value.ref b] s) (entryFrame m ([Value.ref b] : List Value).toArray 4) := by
  obtain ⟨hx, hb, hr, hml, hown, hts, hX, hbl, hlocks, hgv⟩ := C0
  obtain ⟨G, g1, g2, g3, g4, hKS⟩ := ks_start hts hgv hX hbl
  obtain ⟨d, μ1, hd, hrun, hc1, hc2⟩ := hlaw L xs hL
  have hok := Rn_sound (G := G) l hrun
  have hwf : wfM G (mem0 L xs) := by rw [← g2, ← g3]; exact wf_mem0
  have hC : Cx Mt 246 p room_1 s m #[Value.ref b] meth c G d 0 4 := ⟨hx, hb, hml, hr, hlocks, hnm, hown, fun w hw => hts w (List.mem_filter.mp hw).1, hKS, by show d + 1 ≤ 2048; omega, by show 64 * d + 64 ≤ 84000; omega, g1.symm⟩
  have hP : va_P (gD G) vwCl (wsOf G (mem0 L xs)) s.heap := fun k q h => by
    obtain ⟨hk, -⟩ := ws_inv h
    exact absurd hk (Nat.not_lt_zero k)
  rw [lg_entry_eq]
  have hl := ent_LH (G := G) hKS.1 (as := [.ref 1000014]) (n := 4) rfl
  have e0 : ([Value.ref 1000014].map (cv G)) = [Value.ref b] := by
    show [cv G (.ref 1000014)] = _
    rw [cv_far (by omega), g4]
  rw [e0] at hl
  have k := hok.2 p e room_1 s m #[Value.ref b] below meth c 0 0 hC (by show mN μ1 ≤ 0 + 600000; omega) (by show mL μ1 ≤ 0 + 7302250; omega) hwf ⟨hwf, Nat.zero_le _, Nat.zero_le _⟩ s.heap [] _ hP va_S.rf hl
  refine W_mono (fun t ht => ?_) k
  obtain ⟨o, r1, r2, ⟨r3, -, -⟩, Ls, ⟨⟨v, hv⟩, hW, hF⟩, hfree⟩ := ht
  refine ⟨o, r1, r2, r3, ⟨v, hv⟩, hW, ?_⟩
  exact hF.weaken (fun y hy hlt => absurd hlt (Nat.not_lt.mpr (by have := hfree y hy; rw [← g1]; exact this))) (by show mN μ1 - 0 ≤ 600000; omega) (by show mL μ1 - 0 ≤ 7302250; omega)

