section SNG
variable {M : Nat → MI} {y d : Nat} {p : Program} {l : Launch} {e : Env} {R : Room} {s : State} {m : MethodId} {args : Array Value} {below : List Frame} {meth : Method} {c : Code} {Q : State → Prop} {G : gG} {N0 L0 nL : Nat}
variable {pc : Nat} {L r : List Value} {μ : aMem}
/-- behind a call -/
theorem run_k {H : Heap} {locs : List Loc} {cells slots mc ms : Nat} {ls : Array Slot} {st0 rest : List Value} {r1 : Option Value} {μ1 : aMem} {a : Array Value} (hr : va_Run p l e R s m args below meth c H locs cells slots mc ms (F0 m pc ls st0) rest (QcM G r1 μ1 a) (gA G)) (hS : va_S (gA G) s.heap H locs)
    (kk : ∀ (H1 : Heap) (locs1 : List Loc), va_P (gD G) vwCl (wsOf G μ1) H1 → va_S (gA G) s.heap H1 locs1 → W p l e R s m args below meth c H1 locs1 (cells + mc) (slots + ms) Q (F0 m (pc + 3) ls ((r1.map (cv G)).toList ++ rest))) : W p l e R s m args below meth c H locs cells slots Q (F0 m pc ls st0) := by
  intro T hT X
  obtain ⟨v, st₀, t, T', Lx, h0, X', hL, e1, e2, ⟨hv, hP, hz, hk⟩, st⟩ := hr T hT X
  cases hv
  rw [h0] at hz hk
  obtain ⟨t2, a1, b1⟩ := kk T'.heap (locs ++ Lx) (by rw [e1]; exact hP) ⟨Nat.le_trans hS.1 (by rw [e1]; exact hz), fun q h1 h2 => by rw [e1, hk q (Nat.lt_of_lt_of_le h1 hS.1) h2]; exact hS.2.1 q h1 h2, fun q hq => by
      rcases List.mem_append.mp hq with h | h
      · exact hS.2.2 q h
      · exact hL q h⟩ T' rfl X'
  exact ⟨t2, st t2 a1, b1⟩
theorem pre_k (C : Cx M y p R s m args meth c G d N0 nL) {as : List Value} {H : Heap} {locs : List Loc} (hP : va_P (gD G) vwCl (wsOf G μ) H) (hS : va_S (gA G) s.heap H locs) (hz : H.size = gB G + mN μ) : ∀ U : State, U.heap = H → s.WarmedH U.vm → PcM G μ as (as.map (cv G)).toArray U := fun U hU hW => ⟨rfl, by rw [hU]; exact hP, C.ks.to hW (fun a h1 h2 => by rw [hU]; exact hS.2.1 a h1 h2), by rw [hU]; exact hz⟩
theorem map_rev (as : List Value) : (as.map (cv G)).reverse = as.reverse.map (cv G) := by rw [List.map_reverse]
theorem opt_map (r1 : Option Value) (rest : List Value) : (r1.map (cv G)).toList ++ rest.map (cv G) = (r1.toList ++ rest).map (cv G) := by cases r1 <;> rfl
theorem cwB (C : Cx M y p R s m args meth c G (d + 1) N0 nL) {idx y' mc ms n : Nat} (hm : mokM M y') (hn : (parseMethodDescriptor (M y').1.desc).map (fun d => d.parameters.length) = some n) (hlk : Cond.methodLink (M y).1.cls idx (M y').1 ∈ lw_good) : CallB R s args (M y).1.cls idx (M y').1 (M y').2.1 (M y').2.2.1 (M y').2.2.2.1 (wsM M y') (rmD d mc ms) mc ms n := by
  have hf := C.fr
  have hlo := C.lo
  have h45 := hm.2.2.2.2
  refine callB_of n C.ts (wsM_good hm) rfl rfl rfl (C.ts _ hm.2.2.1) (C.ts _ hlk) ⟨hm.2.2.2.1.1, hm.2.2.2.1.2, hn⟩ ⟨?_, ?_⟩
  · show d + 1 + 1 ≤ R.frames; omega
  · show 8 + (_ + 11) + (64 * d + 64) ≤ R.locals; omega
theorem cnB (C : Cx M y p R s m args meth c G (d + 1) N0 nL) {idx y' mc ms n : Nat} (hm : mokM M y') (hn : (parseMethodDescriptor (M y').1.desc).map (fun d => d.parameters.length) = some n) (hlk : ((M y).1.cls, idx, (M y').1) ∈ nsM) : va_CN R s args (M y).1.cls idx (M y').1 "ElevenParts" (M y').2.1 (M y').2.2.1 (M y').2.2.2.1 (wsM M y') (rmD d mc ms) mc ms n := by
  have hf := C.fr
  have hlo := C.lo
  have h45 := hm.2.2.2.2
  refine va_cnB n C.ts (wsM_good hm) rfl rfl rfl (C.ks.2.2.2.1 _ hlk) (C.ts _ hm.2.2.1) ⟨hm.2.2.2.1.1, hm.2.2.2.1.2, hn⟩ ⟨?_, ?_⟩
  · show d + 1 + 1 ≤ R.frames; omega
  · show 8 + (_ + 11) + (64 * d + 64) ≤ R.locals; omega
/-- what a call must know of its callee's run -/
def MetY (l : Launch) (M : Nat → MI) (G : gG) (d y : Nat) (as : List Value) (μ : aMem) (r1 : Option Value) (μ1 : aMem) : Prop := Met l (M y).1 (wsM M y) (rmD d (mN μ1 - mN μ) (mL μ1 - mL μ)) (PcM G μ as) (QcM G r1 μ1) (mN μ1 - mN μ) (mL μ1 - mL μ) (gA G)
theorem k_after {r1 : Option Value} {μ1 : aMem} {rest : List Value} {H1 : Heap} {locs1 : List Loc} {ls : Array Slot} (hw : wfM G μ ∧ N0 ≤ mN μ ∧ L0 ≤ mL μ) (hw1 : wfM G μ → wfM G μ1 ∧ mN μ ≤ mN μ1 ∧ mL μ ≤ mL μ1) (k : WK p l e R s m args below meth c Q G N0 L0 nL (pc + 3, L, r1.toList ++ rest, μ1)) (hl : LH G ls nL L) (hP1 : va_P (gD G) vwCl (wsOf G μ1) H1) (hS1 : va_S (gA G) s.heap H1 locs1) : W p l e R s m args below meth c H1 locs1 (mN μ - N0 + (mN μ1 - mN μ)) (mL μ - L0 + (mL μ1 - mL μ)) Q (F0 m (pc + 3) ls ((r1.map (cv G)).toList ++ rest.map (cv G))) := by
  obtain ⟨h1, h2, h3⟩ := hw1 hw.1
  have k1 := k ⟨h1, Nat.le_trans hw.2.1 h2, Nat.le_trans hw.2.2 h3⟩ H1 locs1 ls hP1 hS1 hl
  dsimp only at k1
  rw [opt_map]
  have e1 : mN μ - N0 + (mN μ1 - mN μ) = mN μ1 - N0 := by omega
  have e2 : mL μ - L0 + (mL μ1 - mL μ) = mL μ1 - L0 := by omega
  rw [e1, e2]
  exact k1
theorem k_callV (C : Cx M y p R s m args meth c G (d + 1) N0 nL) {idx y' kk o : Nat} {as rest : List Value} {rr : vw_C} {r1 : Option Value} {μ1 : aMem} (hm : mokM M y') (hn : (parseMethodDescriptor (M y').1.desc).map (fun d => d.parameters.length) = some as.length) (hlk : Cond.methodLink (M y).1.cls idx (M y').1 ∈ lw_good) (hin : Cond.instanceMethod (M y').1 ∈ lw_good) (hsel : Cond.selects (M y').1.cls (M y').1 (M y').1 ∈ lw_good) (hM : MetY l M G d y' (.ref o :: as) μ r1 μ1) (hc : vwCl[kk]? = some rr) (hrr : rr.1 = (M y').1.cls) (hk : (mS μ o).1 = kk) (hcat : cat rest ≤ 8) (hR1 : mN μ1 ≤ N0 + R.cells) (hR2 : mL μ1 ≤ L0 + R.slots) (hw1 : wfM G μ → wfM G μ1 ∧ mN μ ≤ mN μ1 ∧ mL μ ≤ mL μ1) (hdg : decode (M y).2.1 pc = .ok (.invokevirtual idx, 3)) (k : WK p l e R s m args below meth c Q G N0 L0 nL (pc + 3, L, r1.toList ++ rest, μ1)) : WK p l e R s m args below meth c Q G N0 L0 nL (pc, L, as.reverse ++ .ref o :: rest, μ) := fun hw H locs ls hP hS hl => by
  dsimp only at hw hP hl ⊢
  obtain ⟨-, h10⟩ := nfAll kk rr hc
  have ho : o < mN μ := wf_own hw.1 (by omega)
  obtain ⟨-, m1, m2⟩ := hw1 hw.1
  refine w_size C hw.2.1 hP hS (fun hz => ?_)
  rw [List.map_append, List.map_cons, cv_own (wf_lt hw.1 ho), ← map_rev]
  have hpre := pre_k C (as := .ref o :: as) hP hS hz
  rw [List.map_cons, cv_own (wf_lt hw.1 ho)] at hpre
  obtain ⟨cellB, q1, q2, q3⟩ := va_recv C.k hP hc (show (wsOf G μ)[o]? = some (gB G + o, .inr (kk, flds G μ o kk)) by rw [ws_get G μ ho, cell_o hk h10])
  rw [hrr] at q3
  refine run_k (va_runV (As := as.map (cv G)) (rest := rest.map (cv G)) ⟨C.x, C.b, C.ml, C.own, C.ts⟩ hM ⟨cwB C hm hn hlk, C.ts _ hin, C.ts _ hsel⟩ ⟨PcM_blind _ _ _, ⟨cellB, q1, q2, q3⟩, hpre⟩ rfl (by rw [List.length_map]) hl.1 rfl (by rw [cat_map C.v]; show 2 * 0 + _ ≤ 8; omega) hdg ⟨by omega, by omega⟩) hS (fun H1 locs1 hP1 hS1 => k_after hw hw1 k hl hP1 hS1)
theorem k_callT (C : Cx M y p R s m args meth c G (d + 1) N0 nL) {idx y' o : Nat} {as rest : List Value} {r1 : Option Value} {μ1 : aMem} (hm : mokM M y') (hn : (parseMethodDescriptor (M y').1.desc).map (fun d => d.parameters.length) = some as.length) (hlk : Cond.methodLink (M y).1.cls idx (M y').1 ∈ lw_good) (hin : Cond.instanceMethod (M y').1 ∈ lw_good) (hsel : Cond.selects (M y').1.cls (M y').1 (M y').1 ∈ lw_good) (hM : MetY l M G d y' (.ref o :: as) μ r1 μ1) (hcl : (M y').1.cls = "java/lang/String") (ho1 : 1000002 ≤ o) (ho2 : o < 1000008) (hcat : cat rest ≤ 8) (hR1 : mN μ1 ≤ N0 + R.cells) (hR2 : mL μ1 ≤ L0 + R.slots) (hw1 : wfM G μ → wfM G μ1 ∧ mN μ ≤ mN μ1 ∧ mL μ ≤ mL μ1) (hdg : decode (M y).2.1 pc = .ok (.invokevirtual idx, 3)) (k : WK p l e R s m args below meth c Q G N0 L0 nL (pc + 3, L, r1.toList ++ rest, μ1)) : WK p l e R s m args below meth c Q G N0 L0 nL (pc, L, as.reverse ++ .ref o :: rest, μ) := fun hw H locs ls hP hS hl => by
  dsimp only at hw hP hl ⊢
  obtain ⟨i, rfl⟩ : ∃ i, o = 1000002 + i := ⟨o - 1000002, by omega⟩
  obtain ⟨q, t, e1, -, -, hO, -⟩ := C.ks.2.2.2.2.2.2.2.1 i (by omega)
  obtain ⟨-, m1, m2⟩ := hw1 hw.1
  refine w_size C hw.2.1 hP hS (fun hz => ?_)
  rw [List.map_append, List.map_cons, cv_far (by omega), e1, ← map_rev]
  have hpre := pre_k C (as := .ref (1000002 + i) :: as) hP hS hz
  rw [List.map_cons, cv_far (by omega), e1] at hpre
  obtain ⟨cellB, q1, q2, q3, -⟩ := hO.kept hS.2.1
  rw [← hcl] at q3
  refine run_k (va_runV (As := as.map (cv G)) (rest := rest.map (cv G)) ⟨C.x, C.b, C.ml, C.own, C.ts⟩ hM ⟨cwB C hm hn hlk, C.ts _ hin, C.ts _ hsel⟩ ⟨PcM_blind _ _ _, ⟨cellB, q1, q2, q3⟩, hpre⟩ rfl (by rw [List.length_map]) hl.1 rfl (by rw [cat_map C.v]; show 2 * 0 + _ ≤ 8; omega) hdg ⟨by omega, by omega⟩) hS (fun H1 locs1 hP1 hS1 => k_after hw hw1 k hl hP1 hS1)
theorem k_callS (C : Cx M y p R s m args meth c G (d + 1) N0 nL) {idx y' : Nat} {as rest : List Value} {r1 : Option Value} {μ1 : aMem} (hm : mokM M y') (hn : (parseMethodDescriptor (M y').1.desc).map (fun d => d.parameters.length) = some as.length) (hlk : Cond.methodLink (M y).1.cls idx (M y').1 ∈ lw_good) (hst : Cond.static (M y').1 ∈ lw_good) (hM : MetY l M G d y' as μ r1 μ1) (hcat : cat rest ≤ 8) (hR1 : mN μ1 ≤ N0 + R.cells) (hR2 : mL μ1 ≤ L0 + R.slots) (hw1 : wfM G μ → wfM G μ1 ∧ mN μ ≤ mN μ1 ∧ mL μ ≤ mL μ1) (hdg : decode (M y).2.1 pc = .ok (.invokestatic idx, 3)) (k : WK p l e R s m args below meth c Q G N0 L0 nL (pc + 3, L, r1.toList ++ rest, μ1)) : WK p l e R s m args below meth c Q G N0 L0 nL (pc, L, as.reverse ++ rest, μ) := fun hw H locs ls hP hS hl => by
  dsimp only at hw hP hl ⊢
  obtain ⟨-, m1, m2⟩ := hw1 hw.1
  refine w_size C hw.2.1 hP hS (fun hz => ?_)
  rw [List.map_append, ← map_rev]
  have hpre := pre_k C (as := as) hP hS hz
  refine run_k (va_runS (As := as.map (cv G)) (rest := rest.map (cv G)) ⟨C.x, C.b, C.ml, C.own, C.ts⟩ hM ⟨cwB C hm hn hlk, C.ts _ hst⟩ ⟨PcM_blind _ _ _, hpre⟩ rfl (by rw [List.length_map]) hl.1 rfl (by rw [cat_map C.v]; show 2 * 0 + _ ≤ 8; omega) hdg ⟨by omega, by omega⟩) hS (fun H1 locs1 hP1 hS1 => k_after hw hw1 k hl hP1 hS1)
theorem k_callSN (C : Cx M y p R s m args meth c G (d + 1) N0 nL) {idx y' : Nat} {as rest : List Value} {r1 : Option Value} {μ1 : aMem} (hm : mokM M y') (hn : (parseMethodDescriptor (M y').1.desc).map (fun d => d.parameters.length) = some as.length) (hlk : ((M y).1.cls, idx, (M y').1) ∈ nsM) (hst : Cond.static (M y').1 ∈ lw_good) (hM : MetY l M G d y' as μ r1 μ1) (hcat : cat rest ≤ 8) (hR1 : mN μ1 ≤ N0 + R.cells) (hR2 : mL μ1 ≤ L0 + R.slots) (hw1 : wfM G μ → wfM G μ1 ∧ mN μ ≤ mN μ1 ∧ mL μ ≤ mL μ1) (hdg : decode (M y).2.1 pc = .ok (.invokestatic idx, 3)) (k : WK p l e R s m args below meth c Q G N0 L0 nL (pc + 3, L, r1.toList ++ rest, μ1)) : WK p l e R s m args below meth c Q G N0 L0 nL (pc, L, as.reverse ++ rest, μ) := fun hw H locs ls hP hS hl => by
  dsimp only at hw hP hl ⊢
  obtain ⟨-, m1, m2⟩ := hw1 hw.1
  refine w_size C hw.2.1 hP hS (fun hz => ?_)
  rw [List.map_append, ← map_rev]
  have hpre := pre_k C (as := as) hP hS hz
  refine run_k (va_runSN (As := as.map (cv G)) (rest := rest.map (cv G)) ⟨C.x, C.b, C.ml, C.own, C.ts⟩ hM ⟨cnB C hm hn hlk, C.ts _ hst, trivial⟩ ⟨PcM_blind _ _ _, hpre⟩ rfl (by rw [List.length_map]) hl.1 rfl (by rw [cat_map C.v]; show 2 * 0 + _ ≤ 8; omega) hdg ⟨by omega, by omega⟩) hS (fun H1 locs1 hP1 hS1 => k_after hw hw1 k hl hP1 hS1)
theorem k_callI (C : Cx M y p R s m args meth c G (d + 1) N0 nL) {idx y' o : Nat} {as rest : List Value} {r1 : Option Value} {μ1 : aMem} (hm : mokM M y') (hn : (parseMethodDescriptor (M y').1.desc).map (fun d => d.parameters.length) = some as.length) (hlk : Cond.methodLink (M y).1.cls idx (M y').1 ∈ lw_good) (hin : Cond.instanceMethod (M y').1 ∈ lw_good) (hnm : (M y').1.name = "<init>") (hrt : (M y').2.2.2.1 = none) (hM : MetY l M G d y' (.ref o :: as) μ r1 μ1) (ho : o < 999999) (hcat : cat rest ≤ 8) (hR1 : mN μ1 ≤ N0 + R.cells) (hR2 : mL μ1 ≤ L0 + R.slots) (hw1 : wfM G μ → wfM G μ1 ∧ mN μ ≤ mN μ1 ∧ mL μ ≤ mL μ1) (hdg : decode (M y).2.1 pc = .ok (.invokespecial idx, 3)) (k : WK p l e R s m args below meth c Q G N0 L0 nL (pc + 3, L, r1.toList ++ rest, μ1)) : WK p l e R s m args below meth c Q G N0 L0 nL (pc, L, as.reverse ++ .ref o :: rest, μ) := fun hw H locs ls hP hS hl => by
  dsimp only at hw hP hl ⊢
  obtain ⟨-, m1, m2⟩ := hw1 hw.1
  refine w_size C hw.2.1 hP hS (fun hz => ?_)
  rw [List.map_append, List.map_cons, cv_own ho, ← map_rev]
  have hpre := pre_k C (as := .ref o :: as) hP hS hz
  rw [List.map_cons, cv_own ho] at hpre
  have hcb := cwB (mc := mN μ1 - mN μ) (ms := mL μ1 - mL μ) C hm hn hlk
  rw [hrt] at hcb
  refine run_k (va_runI (As := as.map (cv G)) (rest := rest.map (cv G)) ⟨C.x, C.b, C.ml, C.own, C.ts⟩ hM ⟨hcb, hnm, C.ts _ hin⟩ ⟨PcM_blind _ _ _, hpre⟩ rfl (by rw [List.length_map]) hl.1 rfl (by rw [cat_map C.v]; show 2 * 0 + _ ≤ 8; omega) hdg ⟨by omega, by omega⟩) hS (fun H1 locs1 hP1 hS1 => k_after hw hw1 k hl hP1 hS1)
theorem k_callIN (C : Cx M y p R s m args meth c G (d + 1) N0 nL) {idx y' o : Nat} {as rest : List Value} {r1 : Option Value} {μ1 : aMem} (hm : mokM M y') (hn : (parseMethodDescriptor (M y').1.desc).map (fun d => d.parameters.length) = some as.length) (hlk : ((M y).1.cls, idx, (M y').1) ∈ nsM) (hin : Cond.instanceMethod (M y').1 ∈ lw_good) (hnm : (M y').1.name = "<init>") (hrt : (M y').2.2.2.1 = none) (hM : MetY l M G d y' (.ref o :: as) μ r1 μ1) (ho : o < 999999) (hcat : cat rest ≤ 8) (hR1 : mN μ1 ≤ N0 + R.cells) (hR2 : mL μ1 ≤ L0 + R.slots) (hw1 : wfM G μ → wfM G μ1 ∧ mN μ ≤ mN μ1 ∧ mL μ ≤ mL μ1) (hdg : decode (M y).2.1 pc = .ok (.invokespecial idx, 3)) (k : WK p l e R s m args below meth c Q G N0 L0 nL (pc + 3, L, r1.toList ++ rest, μ1)) : WK p l e R s m args below meth c Q G N0 L0 nL (pc, L, as.reverse ++ .ref o :: rest, μ) := fun hw H locs ls hP hS hl => by
  dsimp only at hw hP hl ⊢
  obtain ⟨-, m1, m2⟩ := hw1 hw.1
  refine w_size C hw.2.1 hP hS (fun hz => ?_)
  rw [List.map_append, List.map_cons, cv_own ho, ← map_rev]
  have hpre := pre_k C (as := .ref o :: as) hP hS hz
  rw [List.map_cons, cv_own ho] at hpre
  have hcb := cnB (mc := mN μ1 - mN μ) (ms := mL μ1 - mL μ) C hm hn hlk
  rw [hrt] at hcb
  refine run_k (va_runIN (As := as.map (cv G)) (rest := rest.map (cv G)) ⟨C.x, C.b, C.ml, C.own, C.ts⟩ hM ⟨hcb, hnm, C.ts _ hin⟩ ⟨PcM_blind _ _ _, hpre⟩ rfl (by rw [List.length_map]) hl.1 rfl (by rw [cat_map C.v]; show 2 * 0 + _ ≤ 8; omega) hdg ⟨by omega, by omega⟩) hS (fun H1 locs1 hP1 hS1 => k_after hw hw1 k hl hP1 hS1)
-- the ends
abbrev QE (below : List Frame) (G : gG) (args : Array Value) (s : State) (N0 L0 : Nat) (r1 : Option Value) (μ1 : aMem) : State → Prop := MQ below (QcM G r1 μ1) args s (mN μ1 - N0) (mL μ1 - L0) (gA G)
theorem k_iret (C : Cx M y p R s m args meth c G d N0 nL) {x : Int32} {ty : FieldType} (hdg : decode (M y).2.1 pc = .ok (.ireturn, 1)) (hr : (M y).2.2.2.1 = some ty) (hn : narrow ty (.int x) = .int x) : WK p l e R s m args below meth c (QE below G args s N0 L0 (some (.int x)) μ) G N0 L0 nL (pc, L, [.int x], μ) := fun hw H locs ls hP hS hl =>
  W.zret C.x C.b (C.r.trans hr) hn (fun t ht hW => ⟨rfl, by rw [ht]; exact hP, hS.F ht⟩) hS.2.2 hdg C.lk
theorem k_lret (C : Cx M y p R s m args meth c G d N0 nL) {x : Int64} (hdg : decode (M y).2.1 pc = .ok (.lreturn, 1)) (hr : (M y).2.2.2.1 = some .long) : WK p l e R s m args below meth c (QE below G args s N0 L0 (some (.long x)) μ) G N0 L0 nL (pc, L, [.long x], μ) := fun hw H locs ls hP hS hl =>
  W.lret C.x C.b (C.r.trans hr) (fun t ht hW => ⟨rfl, by rw [ht]; exact hP, hS.F ht⟩) hS.2.2 hdg C.lk
theorem k_vret (C : Cx M y p R s m args meth c G d N0 nL) (hdg : decode (M y).2.1 pc = .ok (.return_, 1)) (hr : (M y).2.2.2.1 = none) : WK p l e R s m args below meth c (QE below G args s N0 L0 none μ) G N0 L0 nL (pc, L, [], μ) := fun hw H locs ls hP hS hl =>
  W.vret C.x C.b (C.r.trans hr) (fun t ht hW => ⟨rfl, by rw [ht]; exact hP, hS.F ht⟩) hS.2.2 hdg C.lk
theorem k_aret (C : Cx M y p R s m args meth c G d N0 nL) {x : Nat} {ty : FieldType} (hdg : decode (M y).2.1 pc = .ok (.areturn, 1)) (hr : (M y).2.2.2.1 = some ty) (hty : isR ty = true) : WK p l e R s m args below meth c (QE below G args s N0 L0 (some (.ref x)) μ) G N0 L0 nL (pc, L, [.ref x], μ) := fun hw H locs ls hP hS hl =>
  W.aret C.x C.b (C.r.trans hr) (by cases ty with
    | object n => exact Or.inl ⟨n, rfl⟩
    | array n => exact Or.inr ⟨n, rfl⟩
    | _ => cases hty) (cv_two C x) (fun t ht hW => ⟨rfl, by rw [ht]; exact hP, hS.F ht⟩) hS.2.2 hdg C.lk
end SNG
