theorem wMax1 : Cond.static Lib.Math.max.name ∈ lw_good := lw_mem (w := 460) (by decide +kernel) (by decide +kernel)
theorem wMath : Cond.initialized "java/lang/Math" ∈ lw_good := lw_mem (w := 82) (by decide +kernel) (by decide +kernel)
theorem wMax3 : Cond.code Lib.Math.max.name Lib.Math.max.code 2 (some .int) ∈ lw_good := lw_mem (w := 461) (by decide +kernel) (by decide +kernel)
theorem wMin1 : Cond.static Lib.Math.min.name ∈ lw_good := lw_mem (w := 420) (by decide +kernel) (by decide +kernel)
theorem wMin3 : Cond.code Lib.Math.min.name Lib.Math.min.code 2 (some .int) ∈ lw_good := lw_mem (w := 421) (by decide +kernel) (by decide +kernel)
theorem wCp1 : Cond.native arraycopyName ∈ lw_good := lw_mem (w := 507) (by decide +kernel) (by decide +kernel)
theorem wCp2 : Cond.static arraycopyName ∈ lw_good := lw_mem (w := 506) (by decide +kernel) (by decide +kernel)
theorem wSys : Cond.initialized "java/lang/System" ∈ lw_good := lw_mem (w := 84) (by decide +kernel) (by decide +kernel)
theorem wOi1 : Cond.instanceMethod Lib.objectInit ∈ lw_good := lw_mem (w := 97) (by decide +kernel) (by decide +kernel)
theorem wOi2 : Cond.code Lib.objectInit ⟨#[0xb1]⟩ 1 none ∈ lw_good := lw_mem (w := 98) (by decide +kernel) (by decide +kernel)
theorem wArI : Cond.arrayClass .int ∈ lw_good := lw_mem (w := 127) (by decide +kernel) (by decide +kernel)
theorem wArJ : Cond.arrayClass .long ∈ lw_good := lw_mem (w := 239) (by decide +kernel) (by decide +kernel)
def okF (M : Nat → MI) (y idx a b w : Nat) : Bool := match vwCl[a]? with
  | some rr => decide (b < rr.2.2) && lw_ok w (.fieldLink (M y).1.cls idx (rr.2.1 b).1 (rr.2.1 b).2.1 (rr.2.1 b).2.2.1)
  | none => false
def okP (M : Nat → MI) (y a b : Nat) : Bool := match vwCl[a]? with
  | some rr => decide ((rr.2.1 b).2.2.2 = false) || (decide ((rr.2.1 b).2.2.2 = true) && decide ((M y).1.name = "<init>") && decide ((rr.2.1 b).1 = (M y).1.cls))
  | none => false
def okO (pc : Nat) (off : Int) : Bool := decide (0 ≤ (pc : Int) + off)
def okM (M : Nat → MI) (nM a b : Nat) : Bool := decide (a < nM) && decide ((parseMethodDescriptor (M a).1.desc).map (fun d => d.parameters.length) = some b)
abbrev wI (q : MI) : Nat := q.2.2.2.2.2.1
abbrev wS (q : MI) : Nat := q.2.2.2.2.2.2.1
/-- an instruction's entry is what the tables say -/
def gdl (M : Nat → MI) (nM y pc : Nat) (e : aEnt) : Bool :=
  match e with
  | (i, n, a, b, c, k, w) =>
  match i with
  | .iload_n _ => decide (n = 1)
  | .lload_n _ => decide (n = 1)
  | .aload_n _ => decide (n = 1)
  | .istore_n _ => decide (n = 1)
  | .lstore_n _ => decide (n = 1)
  | .astore_n _ => decide (n = 1)
  | .iadd => decide (n = 1)
  | .isub => decide (n = 1)
  | .imul => decide (n = 1)
  | .iand => decide (n = 1)
  | .ior => decide (n = 1)
  | .ixor => decide (n = 1)
  | .idiv => decide (n = 1)
  | .irem => decide (n = 1)
  | .ineg => decide (n = 1)
  | .ishl => decide (n = 1)
  | .ishr => decide (n = 1)
  | .iushr => decide (n = 1)
  | .ladd => decide (n = 1)
  | .lmul => decide (n = 1)
  | .ldiv => decide (n = 1)
  | .lrem => decide (n = 1)
  | .lcmp => decide (n = 1)
  | .i2l => decide (n = 1)
  | .i2s => decide (n = 1)
  | .i2b => decide (n = 1)
  | .i2c => decide (n = 1)
  | .dup => decide (n = 1)
  | .dup2 => decide (n = 1)
  | .pop => decide (n = 1)
  | .iaload => decide (n = 1)
  | .baload => decide (n = 1)
  | .laload => decide (n = 1)
  | .aaload => decide (n = 1)
  | .iastore => decide (n = 1)
  | .lastore => decide (n = 1)
  | .aastore => decide (n = 1)
  | .arraylength => decide (n = 1)
  | .aconst_null => decide (n = 1)
  | .iconst _ => decide (n = 1)
  | .lconst _ => decide (n = 1)
  | .bipush _ => decide (n = 2)
  | .sipush _ => decide (n = 3)
  | .iload _ => decide (n = 2)
  | .lload _ => decide (n = 2)
  | .aload _ => decide (n = 2)
  | .istore _ => decide (n = 2)
  | .lstore _ => decide (n = 2)
  | .astore _ => decide (n = 2)
  | .iinc _ _ => decide (n = 3)
  | .ifCond _ off => decide (n = 3) && okO pc off
  | .if_icmp _ off => decide (n = 3) && okO pc off
  | .ifnull off => decide (n = 3) && okO pc off
  | .ifnonnull off => decide (n = 3) && okO pc off
  | .goto off => decide (n = 3) && okO pc off
  | .tableswitch d _ _ offs => okO pc d && offs.toList.all (okO pc)
  | .lookupswitch d ps => okO pc d && ps.toList.all (fun q => okO pc q.2) && (ps.toList.zip (ps.toList.drop 1)).all (fun (a, next) => a.1 < next.1)
  | .getfield idx => decide (n = 3) && (if a = 16 then (if b = 0 then lw_ok w (.fieldLink (M y).1.cls idx "java/lang/String" "value" "[B") else lw_ok w (.fieldLink (M y).1.cls idx "java/lang/String" "coder" "B")) else okF M y idx a b w && (decide (c = 1) == isR (tyO a b)))
  | .putfield idx => decide (n = 3) && okF M y idx a b w && okP M y a b && (if c = 0 then decide (tyO a b = .int) else if c = 1 then isR (tyO a b) else if c = 2 then decide (tyO a b = .boolean) else false)
  | .getstatic idx => decide (n = 3) && (if a = 0 then (if b = 0 then lw_ok w (.fieldLink (M y).1.cls idx "ElevenParts" "CARDS" "[I") else decide (((M y).1.cls, idx, "CARDS") ∈ nsF)) else if a = 1 then (if b = 0 then lw_ok w (.fieldLink (M y).1.cls idx "ElevenParts" "ABOVE" "[I") else decide (((M y).1.cls, idx, "ABOVE") ∈ nsF)) else if a = 2 then lw_ok w (.fieldLink (M y).1.cls idx "java/lang/String" "COMPACT_STRINGS" "Z") else lw_ok w (.fieldLink (M y).1.cls idx "jdk/internal/util/Preconditions" "SIOOBE_FORMATTER" "Ljava/util/function/BiFunction;"))
  | .ldc idx => decide (n = 2) && (if a = 0 then lw_ok w (.constant (M y).1.cls idx (Int32.ofNat c)) else decide (c < 6) && decide ((M y).1.cls = RX3) && decide (idx = sIx.getD c 0))
  | .ldc_w idx => decide (n = 3) && lw_ok w (.constant (M y).1.cls idx (Int32.ofNat c))
  | .ldc2_w idx => decide (n = 3) && lw_ok w (.constantLong (M y).1.cls idx (Int64.ofNat c))
  | .new idx => decide (n = 3) && (match vwCl[a]? with
    | some rr => decide (b = rr.2.2) && lw_ok w (.classLink (M y).1.cls idx rr.1) && lw_ok c (.instantiable rr.1 rr.2.2) && lw_ok k (.initialized rr.1)
    | none => false)
  | .newarray t => decide (n = 2) && (decide (t = .int ∧ a = 10) || decide (t = .long ∧ a = 11))
  | .anewarray idx => decide (n = 3) && decide (12 ≤ a ∧ a < 16) && (match vwCl[ecl a]? with
    | some rr => lw_ok w (.classLink (M y).1.cls idx rr.1)
    | none => false)
  | .invokevirtual idx => decide (n = 3) && okM M nM a b && lw_ok w (.methodLink (M y).1.cls idx (M a).1) && lw_ok (wI (M a)) (.instanceMethod (M a).1) && lw_ok (wS (M a)) (.selects (M a).1.cls (M a).1 (M a).1) && (if c = 0 then (match vwCl[k]? with
      | some rr => decide (rr.1 = (M a).1.cls)
      | none => false) else decide (c = 1) && decide ((M a).1.cls = "java/lang/String"))
  | .invokestatic idx => decide (n = 3) && (if c = 2 then okM M nM a b && lw_ok w (.methodLink (M y).1.cls idx (M a).1) && lw_ok (wI (M a)) (.static (M a).1)
      else if c = 4 then okM M nM a b && decide (((M y).1.cls, idx, (M a).1) ∈ nsM) && lw_ok (wI (M a)) (.static (M a).1)
      else if c = 7 then lw_ok w (.methodLink (M y).1.cls idx Lib.Math.max.name) else if c = 8 then lw_ok w (.methodLink (M y).1.cls idx Lib.Math.min.name) else if c = 9 then lw_ok w (.methodLink (M y).1.cls idx arraycopyName) else false)
  | .invokespecial idx => decide (n = 3) && (if c = 6 then lw_ok w (.methodLink (M y).1.cls idx Lib.objectInit) else okM M nM a b && lw_ok (wI (M a)) (.instanceMethod (M a).1) && decide ((M a).1.name = "<init>") && decide ((M a).2.2.2.1 = none) && (if c = 3 then lw_ok w (.methodLink (M y).1.cls idx (M a).1) else decide (c = 5) && decide (((M y).1.cls, idx, (M a).1) ∈ nsM)))
  | .ireturn => decide (n = 1) && decide ((M y).2.2.2.1 = some (if a = 0 then .int else if a = 1 then .boolean else if a = 2 then .char else .byte))
  | .lreturn => decide (n = 1) && decide ((M y).2.2.2.1 = some .long)
  | .areturn => decide (n = 1) && (match (M y).2.2.2.1 with
    | some t => isR t
    | none => false)
  | .return_ => decide (n = 1) && decide ((M y).2.2.2.1 = none)
  | _ => false
theorem p1i_inv {st : List Value} {f : Int32 → List Value → Option aOut} {o : aOut} (h : p1i st f = some o) : ∃ x r, st = .int x :: r ∧ f x r = some o := by
  unfold p1i at h; split at h
  · exact ⟨_, _, rfl, h⟩
  · cases h
theorem p2i_inv {st : List Value} {f : Int32 → Int32 → List Value → Option aOut} {o : aOut} (h : p2i st f = some o) : ∃ x z r, st = .int z :: .int x :: r ∧ f x z r = some o := by
  unfold p2i at h; split at h
  · exact ⟨_, _, _, rfl, h⟩
  · cases h
theorem p2l_inv {st : List Value} {f : Int64 → Int64 → List Value → Option aOut} {o : aOut} (h : p2l st f = some o) : ∃ x z r, st = .long z :: .long x :: r ∧ f x z r = some o := by
  unfold p2l at h; split at h
  · exact ⟨_, _, _, rfl, h⟩
  · cases h
theorem p1r_inv {st : List Value} {f : Nat → List Value → Option aOut} {o : aOut} (h : p1r st f = some o) : ∃ x r, st = .ref x :: r ∧ f x r = some o := by
  unfold p1r at h; split at h
  · exact ⟨_, _, rfl, h⟩
  · cases h
theorem pir_inv {st : List Value} {f : Nat → Int32 → List Value → Option aOut} {o : aOut} (h : pir st f = some o) : ∃ x j r, st = .int j :: .ref x :: r ∧ f x j r = some o := by
  unfold pir at h; split at h
  · exact ⟨_, _, _, rfl, h⟩
  · cases h
theorem ldI_inv {L : List Value} {i : Nat} {f : Int32 → Option aOut} {o : aOut} (h : ldI L i f = some o) : ∃ x, L[i]? = some (.int x) ∧ f x = some o := by
  unfold ldI at h; split at h
  · rename_i e; exact ⟨_, e, h⟩
  · cases h
theorem ldJ_inv {L : List Value} {i : Nat} {f : Int64 → Option aOut} {o : aOut} (h : ldJ L i f = some o) : ∃ x, L[i]? = some (.long x) ∧ f x = some o := by
  unfold ldJ at h; split at h
  · rename_i e; exact ⟨_, e, h⟩
  · cases h
theorem ldR_inv {L : List Value} {i : Nat} {f : Nat → Option aOut} {o : aOut} (h : ldR L i f = some o) : ∃ x, L[i]? = some (.ref x) ∧ f x = some o := by
  unfold ldR at h; split at h
  · rename_i e; exact ⟨_, e, h⟩
  · cases h
theorem if_inv {α : Type} {c : Prop} {hc : Decidable c} {a : Option α} {o : α} (h : @ite _ c hc a none = some o) : c ∧ a = some o := by
  by_cases q : c
  · rw [if_pos q] at h; exact ⟨q, h⟩
  · rw [if_neg q] at h; cases h
/-- what a step that goes on must give -/
def StepOK (M : Nat → MI) (G : gG) (y : Nat) (q q' : aCfg) : Prop :=
  (wfM G q.2.2.2 → wfM G q'.2.2.2 ∧ mN q.2.2.2 ≤ mN q'.2.2.2 ∧ mL q.2.2.2 ≤ mL q'.2.2.2) ∧
  ∀ (p : Program) (l : Launch) (e : Env) (R : Room) (s : State) (m : MethodId) (args : Array Value) (below : List Frame) (meth : Method) (c : Code) (Q : State → Prop) (d N0 L0 nL : Nat), Cx M y p R s m args meth c G d N0 nL → mN q'.2.2.2 ≤ N0 + R.cells → mL q'.2.2.2 ≤ L0 + R.slots → WK p l e R s m args below meth c Q G N0 L0 nL q' → WK p l e R s m args below meth c Q G N0 L0 nL q
theorem same_ok {M : Nat → MI} {G : gG} {y pc pc' : Nat} {L st L' st' : List Value} {μ : aMem} (h : ∀ (p : Program) (l : Launch) (e : Env) (R : Room) (s : State) (m : MethodId) (args : Array Value) (below : List Frame) (meth : Method) (c : Code) (Q : State → Prop) (d N0 L0 nL : Nat), Cx M y p R s m args meth c G d N0 nL → mN μ ≤ N0 + R.cells → mL μ ≤ L0 + R.slots → WK p l e R s m args below meth c Q G N0 L0 nL (pc', L', st', μ) → WK p l e R s m args below meth c Q G N0 L0 nL (pc, L, st, μ)) : StepOK M G y (pc, L, st, μ) (pc', L', st', μ) := ⟨fun w => ⟨w, Nat.le_refl _, Nat.le_refl _⟩, h⟩
theorem two_ok {M : Nat → MI} {G : gG} {y pc p1 p2 : Nat} {L st L' st' : List Value} {μ : aMem} {cc : Prop} {hc : Decidable cc} (h : ∀ (p : Program) (l : Launch) (e : Env) (R : Room) (s : State) (m : MethodId) (args : Array Value) (below : List Frame) (meth : Method) (c : Code) (Q : State → Prop) (d N0 L0 nL : Nat), Cx M y p R s m args meth c G d N0 nL → WK p l e R s m args below meth c Q G N0 L0 nL (@ite _ cc hc (p1, L', st', μ) (p2, L', st', μ)) → WK p l e R s m args below meth c Q G N0 L0 nL (pc, L, st, μ)) : StepOK M G y (pc, L, st, μ) (@ite _ cc hc (p1, L', st', μ) (p2, L', st', μ)) := ⟨fun w => by
    by_cases q : cc
    · rw [if_pos q]; exact ⟨w, Nat.le_refl _, Nat.le_refl _⟩
    · rw [if_neg q]; exact ⟨w, Nat.le_refl _, Nat.le_refl _⟩, fun p l e R s m args below meth c Q d N0 L0 nL C _ _ k => h p l e R s m args below meth c Q d N0 L0 nL C k⟩
section SNH
variable {M : Nat → MI} {nM y pc n a b c k w : Nat} {G : gG} {L st : List Value} {μ : aMem} {q' : aCfg}
theorem sd_iconst {q : Int} (hg : gdl M nM y pc (.iconst q, n, a, b, c, k, w) = true) (hdg : decode (M y).2.1 pc = .ok (.iconst q, n)) (hs : astep (.iconst q, n, a, b, c, k, w) pc L st μ = some (.inl q')) : StepOK M G y (pc, L, st, μ) q' := by
  simp only [gdl, decide_eq_true_eq] at hg
  subst hg
  replace hs : (nx (pc + 1) L (.int (Int32.ofInt q) :: st) μ) = some (.inl q') := hs
  cases hs
  exact same_ok fun p l e R s m args below meth cd Q d N0 L0 nL C h1 h2 kk => k_iconst C hdg kk
theorem sd_bipush {q : Int} (hg : gdl M nM y pc (.bipush q, n, a, b, c, k, w) = true) (hdg : decode (M y).2.1 pc = .ok (.bipush q, n)) (hs : astep (.bipush q, n, a, b, c, k, w) pc L st μ = some (.inl q')) : StepOK M G y (pc, L, st, μ) q' := by
  simp only [gdl, decide_eq_true_eq] at hg
  subst hg
  replace hs : (nx (pc + 2) L (.int (Int8.ofInt q).toInt32 :: st) μ) = some (.inl q') := hs
  cases hs
  exact same_ok fun p l e R s m args below meth cd Q d N0 L0 nL C h1 h2 kk => k_bipush C hdg kk
theorem sd_sipush {q : Int} (hg : gdl M nM y pc (.sipush q, n, a, b, c, k, w) = true) (hdg : decode (M y).2.1 pc = .ok (.sipush q, n)) (hs : astep (.sipush q, n, a, b, c, k, w) pc L st μ = some (.inl q')) : StepOK M G y (pc, L, st, μ) q' := by
  simp only [gdl, decide_eq_true_eq] at hg
  subst hg
  replace hs : (nx (pc + 3) L (.int (Int16.ofInt q).toInt32 :: st) μ) = some (.inl q') := hs
  cases hs
  exact same_ok fun p l e R s m args below meth cd Q d N0 L0 nL C h1 h2 kk => k_sipush C hdg kk
theorem sd_lconst {q : Fin 2} (hg : gdl M nM y pc (.lconst q, n, a, b, c, k, w) = true) (hdg : decode (M y).2.1 pc = .ok (.lconst q, n)) (hs : astep (.lconst q, n, a, b, c, k, w) pc L st μ = some (.inl q')) : StepOK M G y (pc, L, st, μ) q' := by
  simp only [gdl, decide_eq_true_eq] at hg
  subst hg
  replace hs : (nx (pc + 1) L (.long (Int64.ofNat (q : Nat)) :: st) μ) = some (.inl q') := hs
  cases hs
  exact same_ok fun p l e R s m args below meth cd Q d N0 L0 nL C h1 h2 kk => k_lconst C hdg kk
theorem sd_aconst_null (hg : gdl M nM y pc (.aconst_null, n, a, b, c, k, w) = true) (hdg : decode (M y).2.1 pc = .ok (.aconst_null, n)) (hs : astep (.aconst_null, n, a, b, c, k, w) pc L st μ = some (.inl q')) : StepOK M G y (pc, L, st, μ) q' := by
  simp only [gdl, decide_eq_true_eq] at hg
  subst hg
  replace hs : (nx (pc + 1) L (.ref 999999 :: st) μ) = some (.inl q') := hs
  cases hs
  exact same_ok fun p l e R s m args below meth cd Q d N0 L0 nL C h1 h2 kk => k_null C hdg kk
theorem sd_iload_n {q : Fin 4} (hg : gdl M nM y pc (.iload_n q, n, a, b, c, k, w) = true) (hdg : decode (M y).2.1 pc = .ok (.iload_n q, n)) (hs : astep (.iload_n q, n, a, b, c, k, w) pc L st μ = some (.inl q')) : StepOK M G y (pc, L, st, μ) q' := by
  simp only [gdl, decide_eq_true_eq] at hg
  subst hg
  replace hs : (ldI L q fun x => nx (pc + 1) L (.int x :: st) μ) = some (.inl q') := hs
  obtain ⟨x, hx, hs⟩ := ldI_inv hs
  cases hs
  exact same_ok fun p l e R s m args below meth cd Q d N0 L0 nL C h1 h2 kk => k_iload_n C hdg hx kk
theorem sd_iload {q : Nat} (hg : gdl M nM y pc (.iload q, n, a, b, c, k, w) = true) (hdg : decode (M y).2.1 pc = .ok (.iload q, n)) (hs : astep (.iload q, n, a, b, c, k, w) pc L st μ = some (.inl q')) : StepOK M G y (pc, L, st, μ) q' := by
  simp only [gdl, decide_eq_true_eq] at hg
  subst hg
  replace hs : (ldI L q fun x => nx (pc + 2) L (.int x :: st) μ) = some (.inl q') := hs
  obtain ⟨x, hx, hs⟩ := ldI_inv hs
  cases hs
  exact same_ok fun p l e R s m args below meth cd Q d N0 L0 nL C h1 h2 kk => k_iload C hdg hx kk
theorem sd_lload_n {q : Fin 4} (hg : gdl M nM y pc (.lload_n q, n, a, b, c, k, w) = true) (hdg : decode (M y).2.1 pc = .ok (.lload_n q, n)) (hs : astep (.lload_n q, n, a, b, c, k, w) pc L st μ = some (.inl q')) : StepOK M G y (pc, L, st, μ) q' := by
  simp only [gdl, decide_eq_true_eq] at hg
  subst hg
  replace hs : (ldJ L q fun x => nx (pc + 1) L (.long x :: st) μ) = some (.inl q') := hs
  obtain ⟨x, hx, hs⟩ := ldJ_inv hs
  cases hs
  exact same_ok fun p l e R s m args below meth cd Q d N0 L0 nL C h1 h2 kk => k_lload_n C hdg hx kk
theorem sd_lload {q : Nat} (hg : gdl M nM y pc (.lload q, n, a, b, c, k, w) = true) (hdg : decode (M y).2.1 pc = .ok (.lload q, n)) (hs : astep (.lload q, n, a, b, c, k, w) pc L st μ = some (.inl q')) : StepOK M G y (pc, L, st, μ) q' := by
  simp only [gdl, decide_eq_true_eq] at hg
  subst hg
  replace hs : (ldJ L q fun x => nx (pc + 2) L (.long x :: st) μ) = some (.inl q') := hs
  obtain ⟨x, hx, hs⟩ := ldJ_inv hs
  cases hs
  exact same_ok fun p l e R s m args below meth cd Q d N0 L0 nL C h1 h2 kk => k_lload C hdg hx kk
theorem sd_aload_n {q : Fin 4} (hg : gdl M nM y pc (.aload_n q, n, a, b, c, k, w) = true) (hdg : decode (M y).2.1 pc = .ok (.aload_n q, n)) (hs : astep (.aload_n q, n, a, b, c, k, w) pc L st μ = some (.inl q')) : StepOK M G y (pc, L, st, μ) q' := by
  simp only [gdl, decide_eq_true_eq] at hg
  subst hg
  replace hs : (ldR L q fun x => nx (pc + 1) L (.ref x :: st) μ) = some (.inl q') := hs
  obtain ⟨x, hx, hs⟩ := ldR_inv hs
  cases hs
  exact same_ok fun p l e R s m args below meth cd Q d N0 L0 nL C h1 h2 kk => k_aload_n C hdg hx kk
theorem sd_aload {q : Nat} (hg : gdl M nM y pc (.aload q, n, a, b, c, k, w) = true) (hdg : decode (M y).2.1 pc = .ok (.aload q, n)) (hs : astep (.aload q, n, a, b, c, k, w) pc L st μ = some (.inl q')) : StepOK M G y (pc, L, st, μ) q' := by
  simp only [gdl, decide_eq_true_eq] at hg
  subst hg
  replace hs : (ldR L q fun x => nx (pc + 2) L (.ref x :: st) μ) = some (.inl q') := hs
  obtain ⟨x, hx, hs⟩ := ldR_inv hs
  cases hs
  exact same_ok fun p l e R s m args below meth cd Q d N0 L0 nL C h1 h2 kk => k_aload C hdg hx kk
theorem sd_istore_n {q : Fin 4} (hg : gdl M nM y pc (.istore_n q, n, a, b, c, k, w) = true) (hdg : decode (M y).2.1 pc = .ok (.istore_n q, n)) (hs : astep (.istore_n q, n, a, b, c, k, w) pc L st μ = some (.inl q')) : StepOK M G y (pc, L, st, μ) q' := by
  simp only [gdl, decide_eq_true_eq] at hg
  subst hg
  replace hs : (p1i st fun x r => if (q : Nat) < L.length then nx (pc + 1) (sto1 L q (.int x)) r μ else none) = some (.inl q') := hs
  obtain ⟨x, r, rfl, hs⟩ := p1i_inv hs
  obtain ⟨hq, hs⟩ := if_inv hs
  cases hs
  exact same_ok fun p l e R s m args below meth cd Q d N0 L0 nL C h1 h2 kk => k_istore_n C hdg hq kk
theorem sd_istore {q : Nat} (hg : gdl M nM y pc (.istore q, n, a, b, c, k, w) = true) (hdg : decode (M y).2.1 pc = .ok (.istore q, n)) (hs : astep (.istore q, n, a, b, c, k, w) pc L st μ = some (.inl q')) : StepOK M G y (pc, L, st, μ) q' := by
  simp only [gdl, decide_eq_true_eq] at hg
  subst hg
  replace hs : (p1i st fun x r => if q < L.length then nx (pc + 2) (sto1 L q (.int x)) r μ else none) = some (.inl q') := hs
  obtain ⟨x, r, rfl, hs⟩ := p1i_inv hs
  obtain ⟨hq, hs⟩ := if_inv hs
  cases hs
  exact same_ok fun p l e R s m args below meth cd Q d N0 L0 nL C h1 h2 kk => k_istore C hdg hq kk
theorem sd_astore_n {q : Fin 4} (hg : gdl M nM y pc (.astore_n q, n, a, b, c, k, w) = true) (hdg : decode (M y).2.1 pc = .ok (.astore_n q, n)) (hs : astep (.astore_n q, n, a, b, c, k, w) pc L st μ = some (.inl q')) : StepOK M G y (pc, L, st, μ) q' := by
  simp only [gdl, decide_eq_true_eq] at hg
  subst hg
  replace hs : (p1r st fun x r => if (q : Nat) < L.length then nx (pc + 1) (sto1 L q (.ref x)) r μ else none) = some (.inl q') := hs
  obtain ⟨x, r, rfl, hs⟩ := p1r_inv hs
  obtain ⟨hq, hs⟩ := if_inv hs
  cases hs
  exact same_ok fun p l e R s m args below meth cd Q d N0 L0 nL C h1 h2 kk => k_astore_n C hdg hq kk
theorem sd_astore {q : Nat} (hg : gdl M nM y pc (.astore q, n, a, b, c, k, w) = true) (hdg : decode (M y).2.1 pc = .ok (.astore q, n)) (hs : astep (.astore q, n, a, b, c, k, w) pc L st μ = some (.inl q')) : StepOK M G y (pc, L, st, μ) q' := by
  simp only [gdl, decide_eq_true_eq] at hg
  subst hg
  replace hs : (p1r st fun x r => if q < L.length then nx (pc + 2) (sto1 L q (.ref x)) r μ else none) = some (.inl q') := hs
  obtain ⟨x, r, rfl, hs⟩ := p1r_inv hs
  obtain ⟨hq, hs⟩ := if_inv hs
  cases hs
  exact same_ok fun p l e R s m args below meth cd Q d N0 L0 nL C h1 h2 kk => k_astore C hdg hq kk
theorem sd_lstore_n {q : Fin 4} (hg : gdl M nM y pc (.lstore_n q, n, a, b, c, k, w) = true) (hdg : decode (M y).2.1 pc = .ok (.lstore_n q, n)) (hs : astep (.lstore_n q, n, a, b, c, k, w) pc L st μ = some (.inl q')) : StepOK M G y (pc, L, st, μ) q' := by
  simp only [gdl, decide_eq_true_eq] at hg
  subst hg
  replace hs : (match st with
        | .long x :: r => if (q : Nat) + 1 < L.length then nx (pc + 1) (sto2 L q (.long x)) r μ else none
        | _ => none) = some (.inl q') := hs
  split at hs
  · obtain ⟨hq, hs⟩ := if_inv hs
    cases hs
    exact same_ok fun p l e R s m args below meth cd Q d N0 L0 nL C h1 h2 kk => k_lstore_n C hdg hq kk
  · cases hs
theorem sd_lstore {q : Nat} (hg : gdl M nM y pc (.lstore q, n, a, b, c, k, w) = true) (hdg : decode (M y).2.1 pc = .ok (.lstore q, n)) (hs : astep (.lstore q, n, a, b, c, k, w) pc L st μ = some (.inl q')) : StepOK M G y (pc, L, st, μ) q' := by
  simp only [gdl, decide_eq_true_eq] at hg
  subst hg
  replace hs : (match st with
        | .long x :: r => if q + 1 < L.length then nx (pc + 2) (sto2 L q (.long x)) r μ else none
        | _ => none) = some (.inl q') := hs
  split at hs
  · obtain ⟨hq, hs⟩ := if_inv hs
    cases hs
    exact same_ok fun p l e R s m args below meth cd Q d N0 L0 nL C h1 h2 kk => k_lstore C hdg hq kk
  · cases hs
theorem sd_iinc {q : Nat} {j : Int} (hg : gdl M nM y pc (.iinc q j, n, a, b, c, k, w) = true) (hdg : decode (M y).2.1 pc = .ok (.iinc q j, n)) (hs : astep (.iinc q j, n, a, b, c, k, w) pc L st μ = some (.inl q')) : StepOK M G y (pc, L, st, μ) q' := by
  simp only [gdl, decide_eq_true_eq] at hg
  subst hg
  replace hs : (ldI L q fun x => if q < L.length then nx (pc + 3) (sto1 L q (.int (x + Int32.ofInt j))) st μ else none) = some (.inl q') := hs
  obtain ⟨x, hx, hs⟩ := ldI_inv hs
  obtain ⟨hq, hs⟩ := if_inv hs
  cases hs
  exact same_ok fun p l e R s m args below meth cd Q d N0 L0 nL C h1 h2 kk => k_iinc C hdg hx hq kk
theorem sd_iadd (hg : gdl M nM y pc (.iadd, n, a, b, c, k, w) = true) (hdg : decode (M y).2.1 pc = .ok (.iadd, n)) (hs : astep (.iadd, n, a, b, c, k, w) pc L st μ = some (.inl q')) : StepOK M G y (pc, L, st, μ) q' := by
  simp only [gdl, decide_eq_true_eq] at hg
  subst hg
  replace hs : (p2i st fun x y r => nx (pc + 1) L (.int (x + y) :: r) μ) = some (.inl q') := hs
  obtain ⟨x, z, r, rfl, hs⟩ := p2i_inv hs
  cases hs
  exact same_ok fun p l e R s m args below meth cd Q d N0 L0 nL C h1 h2 kk => k_iadd C hdg kk
theorem sd_isub (hg : gdl M nM y pc (.isub, n, a, b, c, k, w) = true) (hdg : decode (M y).2.1 pc = .ok (.isub, n)) (hs : astep (.isub, n, a, b, c, k, w) pc L st μ = some (.inl q')) : StepOK M G y (pc, L, st, μ) q' := by
  simp only [gdl, decide_eq_true_eq] at hg
  subst hg
  replace hs : (p2i st fun x y r => nx (pc + 1) L (.int (x - y) :: r) μ) = some (.inl q') := hs
  obtain ⟨x, z, r, rfl, hs⟩ := p2i_inv hs
  cases hs
  exact same_ok fun p l e R s m args below meth cd Q d N0 L0 nL C h1 h2 kk => k_isub C hdg kk
theorem sd_imul (hg : gdl M nM y pc (.imul, n, a, b, c, k, w) = true) (hdg : decode (M y).2.1 pc = .ok (.imul, n)) (hs : astep (.imul, n, a, b, c, k, w) pc L st μ = some (.inl q')) : StepOK M G y (pc, L, st, μ) q' := by
  simp only [gdl, decide_eq_true_eq] at hg
  subst hg
  replace hs : (p2i st fun x y r => nx (pc + 1) L (.int (x * y) :: r) μ) = some (.inl q') := hs
  obtain ⟨x, z, r, rfl, hs⟩ := p2i_inv hs
  cases hs
  exact same_ok fun p l e R s m args below meth cd Q d N0 L0 nL C h1 h2 kk => k_imul C hdg kk
theorem sd_iand (hg : gdl M nM y pc (.iand, n, a, b, c, k, w) = true) (hdg : decode (M y).2.1 pc = .ok (.iand, n)) (hs : astep (.iand, n, a, b, c, k, w) pc L st μ = some (.inl q')) : StepOK M G y (pc, L, st, μ) q' := by
  simp only [gdl, decide_eq_true_eq] at hg
  subst hg
  replace hs : (p2i st fun x y r => nx (pc + 1) L (.int (x &&& y) :: r) μ) = some (.inl q') := hs
  obtain ⟨x, z, r, rfl, hs⟩ := p2i_inv hs
  cases hs
  exact same_ok fun p l e R s m args below meth cd Q d N0 L0 nL C h1 h2 kk => k_iand C hdg kk
theorem sd_ior (hg : gdl M nM y pc (.ior, n, a, b, c, k, w) = true) (hdg : decode (M y).2.1 pc = .ok (.ior, n)) (hs : astep (.ior, n, a, b, c, k, w) pc L st μ = some (.inl q')) : StepOK M G y (pc, L, st, μ) q' := by
  simp only [gdl, decide_eq_true_eq] at hg
  subst hg
  replace hs : (p2i st fun x y r => nx (pc + 1) L (.int (x ||| y) :: r) μ) = some (.inl q') := hs
  obtain ⟨x, z, r, rfl, hs⟩ := p2i_inv hs
  cases hs
  exact same_ok fun p l e R s m args below meth cd Q d N0 L0 nL C h1 h2 kk => k_ior C hdg kk
theorem sd_ixor (hg : gdl M nM y pc (.ixor, n, a, b, c, k, w) = true) (hdg : decode (M y).2.1 pc = .ok (.ixor, n)) (hs : astep (.ixor, n, a, b, c, k, w) pc L st μ = some (.inl q')) : StepOK M G y (pc, L, st, μ) q' := by
  simp only [gdl, decide_eq_true_eq] at hg
  subst hg
  replace hs : (p2i st fun x y r => nx (pc + 1) L (.int (x ^^^ y) :: r) μ) = some (.inl q') := hs
  obtain ⟨x, z, r, rfl, hs⟩ := p2i_inv hs
  cases hs
  exact same_ok fun p l e R s m args below meth cd Q d N0 L0 nL C h1 h2 kk => k_ixor C hdg kk
theorem sd_ishl (hg : gdl M nM y pc (.ishl, n, a, b, c, k, w) = true) (hdg : decode (M y).2.1 pc = .ok (.ishl, n)) (hs : astep (.ishl, n, a, b, c, k, w) pc L st μ = some (.inl q')) : StepOK M G y (pc, L, st, μ) q' := by
  simp only [gdl, decide_eq_true_eq] at hg
  subst hg
  replace hs : (p2i st fun x y r => nx (pc + 1) L (.int (x <<< (y &&& 31)) :: r) μ) = some (.inl q') := hs
  obtain ⟨x, z, r, rfl, hs⟩ := p2i_inv hs
  cases hs
  exact same_ok fun p l e R s m args below meth cd Q d N0 L0 nL C h1 h2 kk => k_ishl C hdg kk
theorem sd_ishr (hg : gdl M nM y pc (.ishr, n, a, b, c, k, w) = true) (hdg : decode (M y).2.1 pc = .ok (.ishr, n)) (hs : astep (.ishr, n, a, b, c, k, w) pc L st μ = some (.inl q')) : StepOK M G y (pc, L, st, μ) q' := by
  simp only [gdl, decide_eq_true_eq] at hg
  subst hg
  replace hs : (p2i st fun x y r => nx (pc + 1) L (.int (x >>> (y &&& 31)) :: r) μ) = some (.inl q') := hs
  obtain ⟨x, z, r, rfl, hs⟩ := p2i_inv hs
  cases hs
  exact same_ok fun p l e R s m args below meth cd Q d N0 L0 nL C h1 h2 kk => k_ishr C hdg kk
theorem sd_iushr (hg : gdl M nM y pc (.iushr, n, a, b, c, k, w) = true) (hdg : decode (M y).2.1 pc = .ok (.iushr, n)) (hs : astep (.iushr, n, a, b, c, k, w) pc L st μ = some (.inl q')) : StepOK M G y (pc, L, st, μ) q' := by
  simp only [gdl, decide_eq_true_eq] at hg
  subst hg
  replace hs : (p2i st fun x y r => nx (pc + 1) L (.int (x.toUInt32 >>> (y.toUInt32 &&& Int32.toUInt32 31)).toInt32 :: r) μ) = some (.inl q') := hs
  obtain ⟨x, z, r, rfl, hs⟩ := p2i_inv hs
  cases hs
  exact same_ok fun p l e R s m args below meth cd Q d N0 L0 nL C h1 h2 kk => k_iushr C hdg kk
theorem sd_idiv (hg : gdl M nM y pc (.idiv, n, a, b, c, k, w) = true) (hdg : decode (M y).2.1 pc = .ok (.idiv, n)) (hs : astep (.idiv, n, a, b, c, k, w) pc L st μ = some (.inl q')) : StepOK M G y (pc, L, st, μ) q' := by
  simp only [gdl, decide_eq_true_eq] at hg
  subst hg
  replace hs : (p2i st fun x y r => if ¬ y = 0 then nx (pc + 1) L (.int (x / y) :: r) μ else none) = some (.inl q') := hs
  obtain ⟨x, z, r, rfl, hs⟩ := p2i_inv hs
  obtain ⟨hq, hs⟩ := if_inv hs
  cases hs
  exact same_ok fun p l e R s m args below meth cd Q d N0 L0 nL C h1 h2 kk => k_idiv C hdg hq kk
theorem sd_irem (hg : gdl M nM y pc (.irem, n, a, b, c, k, w) = true) (hdg : decode (M y).2.1 pc = .ok (.irem, n)) (hs : astep (.irem, n, a, b, c, k, w) pc L st μ = some (.inl q')) : StepOK M G y (pc, L, st, μ) q' := by
  simp only [gdl, decide_eq_true_eq] at hg
  subst hg
  replace hs : (p2i st fun x y r => if ¬ y = 0 then nx (pc + 1) L (.int (x - x / y * y) :: r) μ else none) = some (.inl q') := hs
  obtain ⟨x, z, r, rfl, hs⟩ := p2i_inv hs
  obtain ⟨hq, hs⟩ := if_inv hs
  cases hs
  exact same_ok fun p l e R s m args below meth cd Q d N0 L0 nL C h1 h2 kk => k_irem C hdg hq kk
theorem sd_ladd (hg : gdl M nM y pc (.ladd, n, a, b, c, k, w) = true) (hdg : decode (M y).2.1 pc = .ok (.ladd, n)) (hs : astep (.ladd, n, a, b, c, k, w) pc L st μ = some (.inl q')) : StepOK M G y (pc, L, st, μ) q' := by
  simp only [gdl, decide_eq_true_eq] at hg
  subst hg
  replace hs : (p2l st fun x y r => nx (pc + 1) L (.long (x + y) :: r) μ) = some (.inl q') := hs
  obtain ⟨x, z, r, rfl, hs⟩ := p2l_inv hs
  cases hs
  exact same_ok fun p l e R s m args below meth cd Q d N0 L0 nL C h1 h2 kk => k_ladd C hdg kk
theorem sd_lmul (hg : gdl M nM y pc (.lmul, n, a, b, c, k, w) = true) (hdg : decode (M y).2.1 pc = .ok (.lmul, n)) (hs : astep (.lmul, n, a, b, c, k, w) pc L st μ = some (.inl q')) : StepOK M G y (pc, L, st, μ) q' := by
  simp only [gdl, decide_eq_true_eq] at hg
  subst hg
  replace hs : (p2l st fun x y r => nx (pc + 1) L (.long (x * y) :: r) μ) = some (.inl q') := hs
  obtain ⟨x, z, r, rfl, hs⟩ := p2l_inv hs
  cases hs
  exact same_ok fun p l e R s m args below meth cd Q d N0 L0 nL C h1 h2 kk => k_lmul C hdg kk
theorem sd_lcmp (hg : gdl M nM y pc (.lcmp, n, a, b, c, k, w) = true) (hdg : decode (M y).2.1 pc = .ok (.lcmp, n)) (hs : astep (.lcmp, n, a, b, c, k, w) pc L st μ = some (.inl q')) : StepOK M G y (pc, L, st, μ) q' := by
  simp only [gdl, decide_eq_true_eq] at hg
  subst hg
  replace hs : (p2l st fun x y r => nx (pc + 1) L (.int (lg_cmp x y) :: r) μ) = some (.inl q') := hs
  obtain ⟨x, z, r, rfl, hs⟩ := p2l_inv hs
  cases hs
  exact same_ok fun p l e R s m args below meth cd Q d N0 L0 nL C h1 h2 kk => k_lcmp C hdg kk
theorem sd_ldiv (hg : gdl M nM y pc (.ldiv, n, a, b, c, k, w) = true) (hdg : decode (M y).2.1 pc = .ok (.ldiv, n)) (hs : astep (.ldiv, n, a, b, c, k, w) pc L st μ = some (.inl q')) : StepOK M G y (pc, L, st, μ) q' := by
  simp only [gdl, decide_eq_true_eq] at hg
  subst hg
  replace hs : (p2l st fun x y r => if ¬ y = 0 then nx (pc + 1) L (.long (x / y) :: r) μ else none) = some (.inl q') := hs
  obtain ⟨x, z, r, rfl, hs⟩ := p2l_inv hs
  obtain ⟨hq, hs⟩ := if_inv hs
  cases hs
  exact same_ok fun p l e R s m args below meth cd Q d N0 L0 nL C h1 h2 kk => k_ldiv C hdg hq kk
theorem sd_lrem (hg : gdl M nM y pc (.lrem, n, a, b, c, k, w) = true) (hdg : decode (M y).2.1 pc = .ok (.lrem, n)) (hs : astep (.lrem, n, a, b, c, k, w) pc L st μ = some (.inl q')) : StepOK M G y (pc, L, st, μ) q' := by
  simp only [gdl, decide_eq_true_eq] at hg
  subst hg
  replace hs : (p2l st fun x y r => if ¬ y = 0 then nx (pc + 1) L (.long (x - x / y * y) :: r) μ else none) = some (.inl q') := hs
  obtain ⟨x, z, r, rfl, hs⟩ := p2l_inv hs
  obtain ⟨hq, hs⟩ := if_inv hs
  cases hs
  exact same_ok fun p l e R s m args below meth cd Q d N0 L0 nL C h1 h2 kk => k_lrem C hdg hq kk
theorem sd_ineg (hg : gdl M nM y pc (.ineg, n, a, b, c, k, w) = true) (hdg : decode (M y).2.1 pc = .ok (.ineg, n)) (hs : astep (.ineg, n, a, b, c, k, w) pc L st μ = some (.inl q')) : StepOK M G y (pc, L, st, μ) q' := by
  simp only [gdl, decide_eq_true_eq] at hg
  subst hg
  replace hs : (p1i st fun x r => nx (pc + 1) L (.int (-x) :: r) μ) = some (.inl q') := hs
  obtain ⟨x, r, rfl, hs⟩ := p1i_inv hs
  cases hs
  exact same_ok fun p l e R s m args below meth cd Q d N0 L0 nL C h1 h2 kk => k_ineg C hdg kk
theorem sd_i2l (hg : gdl M nM y pc (.i2l, n, a, b, c, k, w) = true) (hdg : decode (M y).2.1 pc = .ok (.i2l, n)) (hs : astep (.i2l, n, a, b, c, k, w) pc L st μ = some (.inl q')) : StepOK M G y (pc, L, st, μ) q' := by
  simp only [gdl, decide_eq_true_eq] at hg
  subst hg
  replace hs : (p1i st fun x r => nx (pc + 1) L (.long x.toInt64 :: r) μ) = some (.inl q') := hs
  obtain ⟨x, r, rfl, hs⟩ := p1i_inv hs
  cases hs
  exact same_ok fun p l e R s m args below meth cd Q d N0 L0 nL C h1 h2 kk => k_i2l C hdg kk
theorem sd_i2s (hg : gdl M nM y pc (.i2s, n, a, b, c, k, w) = true) (hdg : decode (M y).2.1 pc = .ok (.i2s, n)) (hs : astep (.i2s, n, a, b, c, k, w) pc L st μ = some (.inl q')) : StepOK M G y (pc, L, st, μ) q' := by
  simp only [gdl, decide_eq_true_eq] at hg
  subst hg
  replace hs : (p1i st fun x r => nx (pc + 1) L (.int x.toInt16.toInt32 :: r) μ) = some (.inl q') := hs
  obtain ⟨x, r, rfl, hs⟩ := p1i_inv hs
  cases hs
  exact same_ok fun p l e R s m args below meth cd Q d N0 L0 nL C h1 h2 kk => k_i2s C hdg kk
theorem sd_i2b (hg : gdl M nM y pc (.i2b, n, a, b, c, k, w) = true) (hdg : decode (M y).2.1 pc = .ok (.i2b, n)) (hs : astep (.i2b, n, a, b, c, k, w) pc L st μ = some (.inl q')) : StepOK M G y (pc, L, st, μ) q' := by
  simp only [gdl, decide_eq_true_eq] at hg
  subst hg
  replace hs : (p1i st fun x r => nx (pc + 1) L (.int x.toInt8.toInt32 :: r) μ) = some (.inl q') := hs
  obtain ⟨x, r, rfl, hs⟩ := p1i_inv hs
  cases hs
  exact same_ok fun p l e R s m args below meth cd Q d N0 L0 nL C h1 h2 kk => k_i2b C hdg kk
theorem sd_i2c (hg : gdl M nM y pc (.i2c, n, a, b, c, k, w) = true) (hdg : decode (M y).2.1 pc = .ok (.i2c, n)) (hs : astep (.i2c, n, a, b, c, k, w) pc L st μ = some (.inl q')) : StepOK M G y (pc, L, st, μ) q' := by
  simp only [gdl, decide_eq_true_eq] at hg
  subst hg
  replace hs : (p1i st fun x r => nx (pc + 1) L (.int (x.toUInt32 % 65536).toInt32 :: r) μ) = some (.inl q') := hs
  obtain ⟨x, r, rfl, hs⟩ := p1i_inv hs
  cases hs
  exact same_ok fun p l e R s m args below meth cd Q d N0 L0 nL C h1 h2 kk => k_i2c C hdg kk
theorem sd_dup (hg : gdl M nM y pc (.dup, n, a, b, c, k, w) = true) (hdg : decode (M y).2.1 pc = .ok (.dup, n)) (hs : astep (.dup, n, a, b, c, k, w) pc L st μ = some (.inl q')) : StepOK M G y (pc, L, st, μ) q' := by
  simp only [gdl, decide_eq_true_eq] at hg
  subst hg
  replace hs : (match st with
        | v :: r => if v.category = 1 then nx (pc + 1) L (v :: v :: r) μ else none
        | _ => none) = some (.inl q') := hs
  split at hs
  · obtain ⟨hq, hs⟩ := if_inv hs
    cases hs
    exact same_ok fun p l e R s m args below meth cd Q d N0 L0 nL C h1 h2 kk => k_dup C hdg hq kk
  · cases hs
theorem sd_pop (hg : gdl M nM y pc (.pop, n, a, b, c, k, w) = true) (hdg : decode (M y).2.1 pc = .ok (.pop, n)) (hs : astep (.pop, n, a, b, c, k, w) pc L st μ = some (.inl q')) : StepOK M G y (pc, L, st, μ) q' := by
  simp only [gdl, decide_eq_true_eq] at hg
  subst hg
  replace hs : (match st with
        | v :: r => if v.category = 1 then nx (pc + 1) L r μ else none
        | _ => none) = some (.inl q') := hs
  split at hs
  · obtain ⟨hq, hs⟩ := if_inv hs
    cases hs
    exact same_ok fun p l e R s m args below meth cd Q d N0 L0 nL C h1 h2 kk => k_pop C hdg hq kk
  · cases hs
theorem sd_dup2 (hg : gdl M nM y pc (.dup2, n, a, b, c, k, w) = true) (hdg : decode (M y).2.1 pc = .ok (.dup2, n)) (hs : astep (.dup2, n, a, b, c, k, w) pc L st μ = some (.inl q')) : StepOK M G y (pc, L, st, μ) q' := by
  simp only [gdl, decide_eq_true_eq] at hg
  subst hg
  replace hs : (match st with
        | v :: w :: r => if v.category = 1 ∧ w.category = 1 then nx (pc + 1) L (v :: w :: v :: w :: r) μ else none
        | _ => none) = some (.inl q') := hs
  split at hs
  · obtain ⟨hq, hs⟩ := if_inv hs
    cases hs
    exact same_ok fun p l e R s m args below meth cd Q d N0 L0 nL C h1 h2 kk => k_dup2 C hdg hq.1 hq.2 kk
  · cases hs
theorem sd_goto {off : Int} (hg : gdl M nM y pc (.goto off, n, a, b, c, k, w) = true) (hdg : decode (M y).2.1 pc = .ok (.goto off, n)) (hs : astep (.goto off, n, a, b, c, k, w) pc L st μ = some (.inl q')) : StepOK M G y (pc, L, st, μ) q' := by
  simp only [gdl, Bool.and_eq_true, decide_eq_true_eq, okO] at hg
  obtain ⟨rfl, hg⟩ := hg
  replace hs : (nx (tgt pc off) L st μ) = some (.inl q') := hs
  cases hs
  exact same_ok fun p l e R s m args below meth cd Q d N0 L0 nL C h1 h2 kk => k_goto C hdg hg kk
theorem sd_ifCond {q : Jvm.ClassFile.Cond} {off : Int} (hg : gdl M nM y pc (.ifCond q off, n, a, b, c, k, w) = true) (hdg : decode (M y).2.1 pc = .ok (.ifCond q off, n)) (hs : astep (.ifCond q off, n, a, b, c, k, w) pc L st μ = some (.inl q')) : StepOK M G y (pc, L, st, μ) q' := by
  simp only [gdl, Bool.and_eq_true, decide_eq_true_eq, okO] at hg
  obtain ⟨rfl, hg⟩ := hg
  replace hs : (p1i st fun x r => some (.inl (if cnd q x 0 = true then (tgt pc off, L, r, μ) else (pc + 3, L, r, μ)))) = some (.inl q') := hs
  obtain ⟨x, r, rfl, hs⟩ := p1i_inv hs
  cases hs
  exact two_ok fun p l e R s m args below meth cd Q d N0 L0 nL C kk => by
    cases q
    · exact k_if_eq C hdg hg kk
    · exact k_if_ne C hdg hg kk
    · exact k_if_lt C hdg hg kk
    · exact k_if_ge C hdg hg kk
    · exact k_if_gt C hdg hg kk
    · exact k_if_le C hdg hg kk
theorem sd_if_icmp {q : Jvm.ClassFile.Cond} {off : Int} (hg : gdl M nM y pc (.if_icmp q off, n, a, b, c, k, w) = true) (hdg : decode (M y).2.1 pc = .ok (.if_icmp q off, n)) (hs : astep (.if_icmp q off, n, a, b, c, k, w) pc L st μ = some (.inl q')) : StepOK M G y (pc, L, st, μ) q' := by
  simp only [gdl, Bool.and_eq_true, decide_eq_true_eq, okO] at hg
  obtain ⟨rfl, hg⟩ := hg
  replace hs : (p2i st fun x y r => some (.inl (if cnd q x y = true then (tgt pc off, L, r, μ) else (pc + 3, L, r, μ)))) = some (.inl q') := hs
  obtain ⟨x, z, r, rfl, hs⟩ := p2i_inv hs
  cases hs
  exact two_ok fun p l e R s m args below meth cd Q d N0 L0 nL C kk => by
    cases q
    · exact k_icmp_eq C hdg hg kk
    · exact k_icmp_ne C hdg hg kk
    · exact k_icmp_lt C hdg hg kk
    · exact k_icmp_ge C hdg hg kk
    · exact k_icmp_gt C hdg hg kk
    · exact k_icmp_le C hdg hg kk
theorem sd_ifnull {off : Int} (hg : gdl M nM y pc (.ifnull off, n, a, b, c, k, w) = true) (hdg : decode (M y).2.1 pc = .ok (.ifnull off, n)) (hs : astep (.ifnull off, n, a, b, c, k, w) pc L st μ = some (.inl q')) : StepOK M G y (pc, L, st, μ) q' := by
  simp only [gdl, Bool.and_eq_true, decide_eq_true_eq, okO] at hg
  obtain ⟨rfl, hg⟩ := hg
  replace hs : (p1r st fun x r => if x ≤ 999999 then some (.inl (if x = 999999 then (tgt pc off, L, r, μ) else (pc + 3, L, r, μ))) else none) = some (.inl q') := hs
  obtain ⟨x, r, rfl, hs⟩ := p1r_inv hs
  obtain ⟨hq, hs⟩ := if_inv hs
  cases hs
  exact two_ok fun p l e R s m args below meth cd Q d N0 L0 nL C kk => k_ifnull C hdg hg hq kk
theorem sd_ifnonnull {off : Int} (hg : gdl M nM y pc (.ifnonnull off, n, a, b, c, k, w) = true) (hdg : decode (M y).2.1 pc = .ok (.ifnonnull off, n)) (hs : astep (.ifnonnull off, n, a, b, c, k, w) pc L st μ = some (.inl q')) : StepOK M G y (pc, L, st, μ) q' := by
  simp only [gdl, Bool.and_eq_true, decide_eq_true_eq, okO] at hg
  obtain ⟨rfl, hg⟩ := hg
  replace hs : (p1r st fun x r => if x ≤ 999999 then some (.inl (if x = 999999 then (pc + 3, L, r, μ) else (tgt pc off, L, r, μ))) else none) = some (.inl q') := hs
  obtain ⟨x, r, rfl, hs⟩ := p1r_inv hs
  obtain ⟨hq, hs⟩ := if_inv hs
  cases hs
  exact two_ok fun p l e R s m args below meth cd Q d N0 L0 nL C kk => k_ifnonnull C hdg hg hq kk
end SNH
