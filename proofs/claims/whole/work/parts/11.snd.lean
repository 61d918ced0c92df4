section SNK
variable {M : Nat → MI} {nM y pc : Nat} {G : gG} {L st : List Value} {μ : aMem} {q' : aCfg}
set_option maxHeartbeats 4000000 in
theorem step_ok {e : aEnt} (hg : gdl M nM y pc e = true) (hdg : decode (M y).2.1 pc = .ok (e.1, e.2.1)) (hs : astep e pc L st μ = some (.inl q')) : StepOK M G y (pc, L, st, μ) q' := by
  obtain ⟨i, n, a, b, c, k, w⟩ := e
  cases i
  case iconst => exact sd_iconst hg hdg hs
  case bipush => exact sd_bipush hg hdg hs
  case sipush => exact sd_sipush hg hdg hs
  case lconst => exact sd_lconst hg hdg hs
  case aconst_null => exact sd_aconst_null hg hdg hs
  case iload_n => exact sd_iload_n hg hdg hs
  case iload => exact sd_iload hg hdg hs
  case lload_n => exact sd_lload_n hg hdg hs
  case lload => exact sd_lload hg hdg hs
  case aload_n => exact sd_aload_n hg hdg hs
  case aload => exact sd_aload hg hdg hs
  case istore_n => exact sd_istore_n hg hdg hs
  case istore => exact sd_istore hg hdg hs
  case astore_n => exact sd_astore_n hg hdg hs
  case astore => exact sd_astore hg hdg hs
  case lstore_n => exact sd_lstore_n hg hdg hs
  case lstore => exact sd_lstore hg hdg hs
  case iinc => exact sd_iinc hg hdg hs
  case iadd => exact sd_iadd hg hdg hs
  case isub => exact sd_isub hg hdg hs
  case imul => exact sd_imul hg hdg hs
  case iand => exact sd_iand hg hdg hs
  case ior => exact sd_ior hg hdg hs
  case ixor => exact sd_ixor hg hdg hs
  case ishl => exact sd_ishl hg hdg hs
  case ishr => exact sd_ishr hg hdg hs
  case iushr => exact sd_iushr hg hdg hs
  case idiv => exact sd_idiv hg hdg hs
  case irem => exact sd_irem hg hdg hs
  case ladd => exact sd_ladd hg hdg hs
  case lmul => exact sd_lmul hg hdg hs
  case lcmp => exact sd_lcmp hg hdg hs
  case ldiv => exact sd_ldiv hg hdg hs
  case lrem => exact sd_lrem hg hdg hs
  case ineg => exact sd_ineg hg hdg hs
  case i2l => exact sd_i2l hg hdg hs
  case i2s => exact sd_i2s hg hdg hs
  case i2b => exact sd_i2b hg hdg hs
  case i2c => exact sd_i2c hg hdg hs
  case dup => exact sd_dup hg hdg hs
  case pop => exact sd_pop hg hdg hs
  case dup2 => exact sd_dup2 hg hdg hs
  case goto => exact sd_goto hg hdg hs
  case ifCond => exact sd_ifCond hg hdg hs
  case if_icmp => exact sd_if_icmp hg hdg hs
  case ifnull => exact sd_ifnull hg hdg hs
  case ifnonnull => exact sd_ifnonnull hg hdg hs
  case tableswitch => exact sd_tableswitch hg hdg hs
  case lookupswitch => exact sd_lookupswitch hg hdg hs
  case getfield => exact sd_getfield hg hdg hs
  case putfield => exact sd_putfield hg hdg hs
  case getstatic => exact sd_getstatic hg hdg hs
  case ldc => exact sd_ldc hg hdg hs
  case ldc_w => exact sd_ldc_w hg hdg hs
  case ldc2_w => exact sd_ldc2_w hg hdg hs
  case iaload => exact sd_iaload hg hdg hs
  case baload => exact sd_baload hg hdg hs
  case laload => exact sd_laload hg hdg hs
  case aaload => exact sd_aaload hg hdg hs
  case iastore => exact sd_iastore hg hdg hs
  case lastore => exact sd_lastore hg hdg hs
  case aastore => exact sd_aastore hg hdg hs
  case arraylength => exact sd_arraylength hg hdg hs
  case new => exact sd_new hg hdg hs
  case newarray => exact sd_newarray hg hdg hs
  case anewarray => exact sd_anewarray hg hdg hs
  case invokevirtual => exact sd_stepV hg hs
  case invokestatic => exact sd_stepS hg hdg hs
  case invokespecial => exact sd_stepI hg hdg hs
  all_goals first | (cases hg; done) | (exfalso; simp only [astep, p1i, p2i, p2l, p1r, pir, ldI, ldJ, ldR, nx] at hs; (repeat' split at hs) <;> cases hs)
set_option maxHeartbeats 4000000 in
theorem call_ok {e : aEnt} {y' : Nat} {as : List Value} (hg : gdl M nM y pc e = true) (hdg : decode (M y).2.1 pc = .ok (e.1, e.2.1)) (hs : astep e pc L st μ = some (.inr (.inr (y', as, q')))) : CallOK M nM G y (pc, L, st, μ) y' as q' := by
  obtain ⟨i, n, a, b, c, k, w⟩ := e
  cases i
  case invokevirtual => exact sd_callV hg hdg hs
  case invokestatic => exact sd_callS hg hdg hs
  case invokespecial => exact sd_callI hg hdg hs
  all_goals first | (cases hg; done) | (exfalso; simp only [astep, p1i, p2i, p2l, p1r, pir, ldI, ldJ, ldR, nx] at hs; (repeat' split at hs) <;> cases hs)
set_option maxHeartbeats 4000000 in
theorem ret_ok {e : aEnt} {r1 : Option Value} {μ1 : aMem} (hg : gdl M nM y pc e = true) (hdg : decode (M y).2.1 pc = .ok (e.1, e.2.1)) (hs : astep e pc L st μ = some (.inr (.inl (r1, μ1)))) : RetOK M G y (pc, L, st, μ) r1 μ1 := by
  obtain ⟨i, n, a, b, c, k, w⟩ := e
  cases i
  case ireturn => exact sd_ireturn hg hdg hs
  case lreturn => exact sd_lreturn hg hdg hs
  case areturn => exact sd_areturn hg hdg hs
  case return_ => exact sd_return hg hdg hs
  all_goals first | (cases hg; done) | (exfalso; simp only [astep, acall, p1i, p2i, p2l, p1r, pir, ldI, ldJ, ldR, nx] at hs; (repeat' split at hs) <;> cases hs)
theorem flat_get (G : gG) (hV : ∀ a, gV G a = .null ∨ ∃ q, gV G a = .ref q) : ∀ (as : List Value) (i : Nat) (v : Value), (as.flatMap fun v => if v.category = 2 then [v, un] else [v])[i]? = some v → (∀ n, v ≠ .retAddr n) → (lg_sl (as.map (cv G)))[i]? = some (.val (cv G v))
  | [], i, v, h, _ => by simp at h
  | a :: as, i, v, h, hv => by
    have ih := flat_get G hV as
    rw [List.flatMap_cons] at h
    show ((if (cv G a).category = 2 then [Slot.val (cv G a), Slot.second] else [Slot.val (cv G a)]) ++ lg_sl (as.map (cv G)))[i]? = _
    rw [cv_cat hV]
    by_cases hc : a.category = 2
    · rw [if_pos hc] at h ⊢
      match i, h with
      | 0, h => simp at h ⊢; rw [h]
      | 1, h => simp at h; exact absurd h.symm (hv 0)
      | i + 2, h => simp at h ⊢; exact ih i v h hv
    · rw [if_neg hc] at h ⊢
      match i, h with
      | 0, h => simp at h ⊢; rw [h]
      | i + 1, h => simp at h ⊢; exact ih i v h hv
theorem flat_len (G : gG) (hV : ∀ a, gV G a = .null ∨ ∃ q, gV G a = .ref q) : ∀ as : List Value, (lg_sl (as.map (cv G))).length = (as.flatMap fun v => if v.category = 2 then [v, un] else [v]).length
  | [] => rfl
  | a :: as => by
    show ((if (cv G a).category = 2 then [Slot.val (cv G a), Slot.second] else [Slot.val (cv G a)]) ++ lg_sl (as.map (cv G))).length = _
    rw [List.flatMap_cons, List.length_append, List.length_append, flat_len G hV as, cv_cat hV]
    by_cases hc : a.category = 2
    · rw [if_pos hc, if_pos hc]; rfl
    · rw [if_neg hc, if_neg hc]; rfl
theorem ent_inv {as : List Value} {n : Nat} {L0 : List Value} (h : ent as n = some L0) : L0 = entL as n ∧ (entL as n).length = n := by
  unfold ent at h
  obtain ⟨h1, h2⟩ := if_inv h
  cases h2
  exact ⟨rfl, h1⟩
theorem ent_LH {G : gG} (hV : ∀ a, gV G a = .null ∨ ∃ q, gV G a = .ref q) {as : List Value} {n : Nat} (h : (entL as n).length = n) : LH G ((lg_sl (as.map (cv G)) ++ List.replicate (n - (lg_sl (as.map (cv G))).length) Slot.unset).toArray) n (entL as n) := by
  have hle : (lg_sl (as.map (cv G))).length ≤ n := by
    rw [flat_len G hV]
    unfold entL at h
    rw [List.length_append, List.length_replicate] at h
    omega
  obtain ⟨h1, h2, -⟩ := lv_entry (as.map (cv G)) hle
  refine ⟨h1, h2, h, fun i v hi hv => ?_⟩
  unfold entL at hi
  by_cases hl : i < (as.flatMap fun v => if v.category = 2 then [v, un] else [v]).length
  · rw [List.getElem?_append_left hl] at hi
    have h3 := flat_get G hV as i v hi hv
    have h4 : i < (lg_sl (as.map (cv G))).length := by rw [flat_len G hV]; exact hl
    simp only [List.getElem?_toArray]
    rw [List.getElem?_append_left h4]
    exact h3
  · rw [List.getElem?_append_right (by omega)] at hi
    have := List.mem_of_getElem? hi
    exact absurd (List.eq_of_mem_replicate this) (hv 0)
/-- what is said of a run -/
def RunOK (l : Launch) (M : Nat → MI) (G : gG) (d y : Nat) (q : aCfg) (r : Option Value) (μ1 : aMem) : Prop :=
  (wfM G q.2.2.2 → wfM G μ1 ∧ mN q.2.2.2 ≤ mN μ1 ∧ mL q.2.2.2 ≤ mL μ1) ∧
  ∀ (p : Program) (e : Env) (R : Room) (s : State) (m : MethodId) (args : Array Value) (below : List Frame) (meth : Method) (c : Code) (N0 L0 : Nat), Cx M y p R s m args meth c G d N0 (M y).2.2.1 → mN μ1 ≤ N0 + R.cells → mL μ1 ≤ L0 + R.slots → wfM G q.2.2.2 → WK p l e R s m args below meth c (QE below G args s N0 L0 r μ1) G N0 L0 (M y).2.2.1 q
theorem met_of {l : Launch} {d y' : Nat} {as : List Value} {r1 : Option Value} {μ1 : aMem} (hm : mokM M y') (hlen : (entL as (M y').2.2.1).length = (M y').2.2.1) (hwf : wfM G μ) (h : RunOK l M G d y' (0, entL as (M y').2.2.1, [], μ) r1 μ1) : MetY l M G d y' as μ r1 μ1 := by
  obtain ⟨w1, w2, w3⟩ := h.1 hwf
  refine Met.ofW (cc := (M y').2.1) (maxL := (M y').2.2.1) (ret := (M y').2.2.2.1) hm.1 rfl ?_
  intro p e s m args below meth c s₁ B hml hv
  obtain ⟨rfl, hP, hKS, hsz⟩ := hv
  have hC : Cx M y' p (rmD d (mN μ1 - mN μ) (mL μ1 - mL μ)) s m (as.map (cv G)).toArray meth c G d (mN μ) (M y').2.2.1 := ⟨B.exec, B.bytes, hml, B.returns, B.notSynchronized, (name_of_methodNamed B.named B.method).1, findClass_of_methodNamed B.named, fun w hw => atoms_spec (ws := wsM M y') B.pre w (List.mem_cons_of_mem _ hw), hKS, Nat.le_refl _, Nat.le_refl _, hsz⟩
  rw [lg_entry_eq]
  have k := h.2 p e (rmD d (mN μ1 - mN μ) (mL μ1 - mL μ)) s m (as.map (cv G)).toArray below meth c (mN μ) (mL μ) hC (by show mN μ1 ≤ mN μ + (mN μ1 - mN μ); exact (by have : mN μ ≤ mN μ1 := w2; omega)) (by show mL μ1 ≤ mL μ + (mL μ1 - mL μ); exact (by have : mL μ ≤ mL μ1 := w3; omega)) hwf ⟨hwf, Nat.le_refl _, Nat.le_refl _⟩ s.heap [] _ hP va_S.rf (ent_LH hKS.1 hlen)
  simp only [Nat.sub_self] at k
  exact k
theorem sound {fe : Nat → Nat → Option aEnt} (l : Launch) (hfe : ∀ y pc e, fe y pc = some e → decode (M y).2.1 pc = .ok (e.1, e.2.1) ∧ gdl M nM y pc e = true) (hM : ∀ y, y < nM → mokM M y) : ∀ (f d y : Nat) (q : aCfg) (r : Option Value) (μ1 : aMem), run fe (fun y => (M y).2.2.1) f d y q = some (r, μ1) → RunOK l M G d y q r μ1
  | 0, d, y, q, r, μ1, h => by simp [run] at h
  | f + 1, d, y, q, r, μ1, h => by
    have ih := sound l hfe hM f
    obtain ⟨pc, L, st, μ⟩ := q
    rw [run] at h
    dsimp only at h
    cases hf : fe y pc with
    | none => rw [hf] at h; simp at h
    | some e =>
      rw [hf] at h
      dsimp only at h
      obtain ⟨hdg, hg⟩ := hfe y pc e hf
      cases hs : astep e pc L st μ with
      | none => rw [hs] at h; simp at h
      | some o =>
        rw [hs] at h
        rcases o with q' | ⟨r', μ'⟩ | ⟨y', as, q'⟩
        · dsimp only at h
          obtain ⟨i1, i2⟩ := ih d y q' r μ1 h
          obtain ⟨s1, s2⟩ := step_ok (G := G) hg hdg hs
          refine ⟨fun hw => ?_, fun p e R s m args below meth c N0 L0 C h1 h2 hw => ?_⟩
          · obtain ⟨a1, a2, a3⟩ := s1 hw
            obtain ⟨b1, b2, b3⟩ := i1 a1
            exact ⟨b1, Nat.le_trans a2 b2, Nat.le_trans a3 b3⟩
          · obtain ⟨a1, a2, a3⟩ := s1 hw
            obtain ⟨b1, b2, b3⟩ := i1 a1
            exact s2 p l e R s m args below meth c _ d N0 L0 _ C (Nat.le_trans b2 h1) (Nat.le_trans b3 h2) (i2 p e R s m args below meth c N0 L0 C h1 h2 a1)
        · dsimp only at h
          cases h
          obtain ⟨e1, s2⟩ := ret_ok (G := G) hg hdg hs
          dsimp only at e1
          subst e1
          exact ⟨fun hw => ⟨hw, Nat.le_refl _, Nat.le_refl _⟩, fun p e R s m args below meth c N0 L0 C h1 h2 hw => s2 p l e R s m args below meth c d N0 L0 _ C⟩
        · obtain ⟨e1, hy, s2⟩ := call_ok (G := G) hg hdg hs
          dsimp only at e1 s2 h
          cases d with
          | zero => simp at h
          | succ d' =>
            dsimp only at h
            cases he : ent as ((M y').2.2.1) with
            | none => rw [he] at h; simp at h
            | some Le =>
              rw [he] at h
              dsimp only at h
              obtain ⟨rfl, hlen⟩ := ent_inv he
              cases hc : run fe (fun y => (M y).2.2.1) f d' y' (0, entL as (M y').2.2.1, [], q'.2.2.2) with
              | none => rw [hc] at h; simp at h
              | some r2 =>
                rw [hc] at h
                dsimp only at h
                obtain ⟨r2, μ2⟩ := r2
                rw [e1] at hc
                have c1 := ih d' y' _ r2 μ2 hc
                obtain ⟨i1, i2⟩ := ih (d' + 1) y _ r μ1 h
                dsimp only at i1 i2
                refine ⟨fun hw => ?_, fun p e R s m args below meth c N0 L0 C h1 h2 hw => ?_⟩
                · obtain ⟨a1, a2, a3⟩ := c1.1 hw
                  obtain ⟨b1, b2, b3⟩ := i1 a1
                  exact ⟨b1, Nat.le_trans a2 b2, Nat.le_trans a3 b3⟩
                · obtain ⟨a1, a2, a3⟩ := c1.1 hw
                  obtain ⟨b1, b2, b3⟩ := i1 a1
                  exact s2 p l e R s m args below meth c _ d' N0 L0 _ r2 μ2 (hM y' hy) C (met_of (hM y' hy) hlen hw c1) (Nat.le_trans b2 h1) (Nat.le_trans b3 h2) c1.1 (i2 p e R s m args below meth c N0 L0 C h1 h2 a1)
end SNK
