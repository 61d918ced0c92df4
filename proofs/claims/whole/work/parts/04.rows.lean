def lw_good : List Cond := lw_tbl.filter goodWord
theorem lw_mem {w : Nat} {c : Cond} (h : lw_tbl[w]? = some c) (hg : goodWord c = true) : c ∈ lw_good := List.mem_filter.mpr ⟨List.mem_of_getElem? h, hg⟩
/-- the tables' words by their lists and places -/
def lw_at (w : Nat) : Option Cond := if w < 1000 then (k2_sels lw_privs)[w]? else if w < 2000 then tables_1_1[w - 1000]? else if w < 3000 then tables_1_2[w - 2000]? else if w < 4000 then tables_1_3[w - 3000]? else if w < 5000 then tables_1_4[w - 4000]? else if w < 6000 then tables_1_5[w - 5000]? else if w < 7000 then tables_1_6[w - 6000]? else tables_1_7[w - 7000]?
theorem lw_at_mem {w : Nat} {c : Cond} (h : lw_at w = some c) : c ∈ lw_tbl := by
  have key : c ∈ k2_sels lw_privs ∨ c ∈ tables_1_1 ∨ c ∈ tables_1_2 ∨ c ∈ tables_1_3 ∨ c ∈ tables_1_4 ∨ c ∈ tables_1_5 ∨ c ∈ tables_1_6 ∨ c ∈ tables_1_7 := by
    unfold lw_at at h
    split at h
    · exact Or.inl (List.mem_of_getElem? h)
    · split at h
      · exact Or.inr (Or.inl (List.mem_of_getElem? h))
      · split at h
        · exact Or.inr (Or.inr (Or.inl (List.mem_of_getElem? h)))
        · split at h
          · exact Or.inr (Or.inr (Or.inr (Or.inl (List.mem_of_getElem? h))))
          · split at h
            · exact Or.inr (Or.inr (Or.inr (Or.inr (Or.inl (List.mem_of_getElem? h)))))
            · split at h
              · exact Or.inr (Or.inr (Or.inr (Or.inr (Or.inr (Or.inl (List.mem_of_getElem? h))))))
              · split at h
                · exact Or.inr (Or.inr (Or.inr (Or.inr (Or.inr (Or.inr (Or.inl (List.mem_of_getElem? h)))))))
                · exact Or.inr (Or.inr (Or.inr (Or.inr (Or.inr (Or.inr (Or.inr (List.mem_of_getElem? h)))))))
  unfold lw_tbl tables_1
  simp only [List.mem_append]
  rcases key with h | h | h | h | h | h | h | h
  · exact Or.inl h
  · exact Or.inr (Or.inl h)
  · exact Or.inr (Or.inr (Or.inl h))
  · exact Or.inr (Or.inr (Or.inr (Or.inl h)))
  · exact Or.inr (Or.inr (Or.inr (Or.inr (Or.inl h))))
  · exact Or.inr (Or.inr (Or.inr (Or.inr (Or.inr (Or.inl h)))))
  · exact Or.inr (Or.inr (Or.inr (Or.inr (Or.inr (Or.inr (Or.inl h))))))
  · exact Or.inr (Or.inr (Or.inr (Or.inr (Or.inr (Or.inr (Or.inr h))))))
def lw_ok (w : Nat) (c : Cond) : Bool := decide (lw_at w = some c) && goodWord c
theorem lw_ok_mem {w : Nat} {c : Cond} (h : lw_ok w c = true) : c ∈ lw_good := by
  unfold lw_ok at h
  rw [Bool.and_eq_true, decide_eq_true_eq] at h
  exact List.mem_filter.mpr ⟨lw_at_mem h.1, h.2⟩
theorem lw_sub (ws : List Cond) (ps : List Nat) (hp : ws = ps.filterMap (fun i => lw_tbl[i]?)) (h : ws.all goodWord = true) : ∀ w ∈ ws, w ∈ lw_good := by
  intro w hw
  have h1 := List.all_eq_true.mp h w hw
  rw [hp] at hw
  obtain ⟨i, -, hi⟩ := List.mem_filterMap.mp hw
  exact lw_mem hi h1
theorem inG0 : ∀ w ∈ u_ws RX0 TX0 4, w ∈ lw_good := lw_sub _ [118, 120, 122, 124] (by decide +kernel) (by decide +kernel)
theorem inG1 : ∀ w ∈ u_ws RX1 TX1 5, w ∈ lw_good := lw_sub _ [155, 157, 159, 161, 163] (by decide +kernel) (by decide +kernel)
theorem inG2 : ∀ w ∈ u_ws RX2 TX2 7, w ∈ lw_good := lw_sub _ [185, 187, 189, 191, 193, 195, 197] (by decide +kernel) (by decide +kernel)
theorem inG3 : ∀ w ∈ u_ws RX3 TX3 10, w ∈ lw_good := lw_sub _ [256, 258, 260, 262, 264, 266, 268, 270, 272, 274] (by decide +kernel) (by decide +kernel)
theorem inG4 : ∀ w ∈ u_ws RX4 TX4 10, w ∈ lw_good := lw_sub _ [218, 220, 222, 224, 226, 228, 230, 232, 234, 236] (by decide +kernel) (by decide +kernel)
theorem inG5 : ∀ w ∈ u_ws RX5 TX5 3, w ∈ lw_good := lw_sub _ [290, 292, 294] (by decide +kernel) (by decide +kernel)
theorem inG6 : ∀ w ∈ u_ws RX6 TX6 4, w ∈ lw_good := lw_sub _ [315, 317, 319, 321] (by decide +kernel) (by decide +kernel)
theorem inG7 : ∀ w ∈ u_ws RX7 TX7 3, w ∈ lw_good := lw_sub _ [882, 884, 886] (by decide +kernel) (by decide +kernel)
theorem inG8 : ∀ w ∈ u_ws RX8 TX8 12, w ∈ lw_good := lw_sub _ [336, 338, 340, 342, 344, 346, 348, 350, 352, 354, 356, 358] (by decide +kernel) (by decide +kernel)
theorem inG9 : ∀ w ∈ u_ws RX9 TX9 38, w ∈ lw_good := lw_sub _ [1093, 1095, 1097, 1099, 1101, 1103, 1105, 1107, 1109, 1111, 1113, 1115, 1117, 1119, 1121, 1123, 1125, 1127, 1129, 1131, 1133, 1135, 1137, 1139, 1141, 1143, 1145, 1147, 1149, 1151, 1153, 1155, 1157, 1159, 1161, 1163, 1165, 1167] (by decide +kernel) (by decide +kernel)
theorem inAll : ∀ (ci : Nat) (r : vw_C), vwCl[ci]? = some r → ∀ w ∈ u_ws r.1 r.2.1 r.2.2, w ∈ lw_good := by
  intro ci r h
  match ci, h with
  | 0, h => cases h; exact inG0
  | 1, h => cases h; exact inG1
  | 2, h => cases h; exact inG2
  | 3, h => cases h; exact inG3
  | 4, h => cases h; exact inG4
  | 5, h => cases h; exact inG5
  | 6, h => cases h; exact inG6
  | 7, h => cases h; exact inG7
  | 8, h => cases h; exact inG8
  | 9, h => cases h; exact inG9
  | n + 10, h => simp [vwCl] at h
theorem tyAll : ∀ (ci : Nat) (r : vw_C), vwCl[ci]? = some r → ∀ k, k < r.2.2 → parseFieldDescriptor (r.2.1 k).2.2.1 = some (tyO ci k) := by
  intro ci r h
  match ci, h with
  | 0, h => cases h; exact tyX0_ok
  | 1, h => cases h; exact tyX1_ok
  | 2, h => cases h; exact tyX2_ok
  | 3, h => cases h; exact tyX3_ok
  | 4, h => cases h; exact tyX4_ok
  | 5, h => cases h; exact tyX5_ok
  | 6, h => cases h; exact tyX6_ok
  | 7, h => cases h; exact tyX7_ok
  | 8, h => cases h; exact tyX8_ok
  | 9, h => cases h; exact tyX9_ok
  | n + 10, h => simp [vwCl] at h
theorem nmAll : ∀ (ci : Nat) (r : vw_C), vwCl[ci]? = some r → ∀ a, a < r.2.2 → ∀ b, b < r.2.2 → a ≠ b → (r.2.1 a).2.1 ≠ (r.2.1 b).2.1 := by
  intro ci r h
  match ci, h with
  | 0, h => cases h; exact nmX0
  | 1, h => cases h; exact nmX1
  | 2, h => cases h; exact nmX2
  | 3, h => cases h; exact nmX3
  | 4, h => cases h; exact nmX4
  | 5, h => cases h; exact nmX5
  | 6, h => cases h; exact nmX6
  | 7, h => cases h; exact nmX7
  | 8, h => cases h; exact nmX8
  | 9, h => cases h; exact nmX9
  | n + 10, h => simp [vwCl] at h
theorem nfAll : ∀ (ci : Nat) (r : vw_C), vwCl[ci]? = some r → r.2.2 = nfO ci ∧ ci < 10 := by
  intro ci r h
  match ci, h with
  | 0, h => cases h; exact ⟨rfl, by decide⟩
  | 1, h => cases h; exact ⟨rfl, by decide⟩
  | 2, h => cases h; exact ⟨rfl, by decide⟩
  | 3, h => cases h; exact ⟨rfl, by decide⟩
  | 4, h => cases h; exact ⟨rfl, by decide⟩
  | 5, h => cases h; exact ⟨rfl, by decide⟩
  | 6, h => cases h; exact ⟨rfl, by decide⟩
  | 7, h => cases h; exact ⟨rfl, by decide⟩
  | 8, h => cases h; exact ⟨rfl, by decide⟩
  | 9, h => cases h; exact ⟨rfl, by decide⟩
  | n + 10, h => simp [vwCl] at h
def nsM : List (String × Nat × MethodName) := [("ElevenParts$Plan", 19, ⟨"ElevenParts$Book", "<init>", "()V"⟩), ("ElevenParts$Plan", 38, ⟨"ElevenParts$Part", "<init>", "()V"⟩), ("ElevenParts", 28, ⟨"ElevenParts$Reckoner", "<init>", "()V"⟩), ("ElevenParts", 35, ⟨"ElevenParts$Reader", "<init>", "()V"⟩), ("ElevenParts", 60, ⟨"ElevenParts$Sheet", "<init>", "()V"⟩), ("ElevenParts", 67, ⟨"ElevenParts$Slot", "<init>", "()V"⟩), ("ElevenParts$Slot", 17, ⟨"ElevenParts$Part", "<init>", "()V"⟩), ("ElevenParts$Slot", 24, ⟨"ElevenParts$Sheet", "<init>", "()V"⟩), ("ElevenParts$Book", 32, ⟨"ElevenParts", "held", "(III)I"⟩), ("ElevenParts$Reckoner", 75, ⟨"ElevenParts", "held", "(III)I"⟩)]
def nsF : List (String × Nat × String) := [("ElevenParts$Reckoner", 97, "CARDS"), ("ElevenParts$Part", 27, "ABOVE"), ("ElevenParts$Sheet", 45, "CARDS")]
def sIx : List Nat := [99, 105, 107, 109, 111, 113]
def sNm : List String := ["say", "wait", "fine", "gtf", "ngt", "ed"]
/-- what is known of the machine at a method's entry -/
def KS (G : gG) (s : State) : Prop :=
  (∀ a, gV G a = .null ∨ ∃ q, gV G a = .ref q) ∧
  va_K (gD G) vwCl (tyK G) s ∧
  (va_AO RX1 s ∧ va_AO RX5 s ∧ va_AO RX6 s ∧ va_AO RX7 s) ∧
  (∀ q ∈ nsM, va_Nw (.methodLinkNest q.1 q.2.1 q.2.2 "ElevenParts") s) ∧
  (∀ q ∈ nsF, va_Nw (.fieldLinkNest q.1 q.2.1 "ElevenParts" q.2.2 "[I" "ElevenParts") s) ∧
  (va_Z "ElevenParts" "CARDS" "[I" (gV G 1000000) (gA G) s s.heap ∧ va_Z "ElevenParts" "ABOVE" "[I" (gV G 1000001) (gA G) s s.heap ∧ va_Z "java/lang/String" "COMPACT_STRINGS" "Z" (.int 1) (gA G) s s.heap ∧ va_Z "jdk/internal/util/Preconditions" "SIOOBE_FORMATTER" "Ljava/util/function/BiFunction;" (gV G 1000015) (gA G) s s.heap) ∧
  (∀ a, a = 1000000 ∨ a = 1000001 → ∃ t, gV G a = .ref t ∧ va_T .int t (sI a).length (fun j => .int ((sI a).getD j 0)) (gA G) s s.heap) ∧
  (∀ i, i < 6 → ∃ q t, gV G (1000002 + i) = .ref q ∧ gV G (1000008 + i) = .ref t ∧ vk_R RX3 (sIx.getD i 0) (sNm.getD i "") q s ∧ va_O "java/lang/String" q (gA G) s s.heap ∧ va_OF "java/lang/String" "coder" "B" (.int 0) q (gA G) s s.heap ∧ va_OF "java/lang/String" "value" "[B" (.ref t) q (gA G) s s.heap ∧ va_T .byte t (sTx.getD i []).length (fun j => .int ((sTx.getD i []).getD j 0)) (gA G) s s.heap) ∧
  ∃ b, gV G 1000014 = .ref b ∧ va_T .int b (gX G) (fun j => .int (gS G j)) (gA G) s s.heap
theorem KS.to {G : gG} {s U : State} (h : KS G s) (hW : s.WarmedH U.vm) (hq : ∀ a : Nat, a < s.heap.size → ¬ gA G a → U.heap[a]? = s.heap[a]?) : KS G U := by
  obtain ⟨h1, h2, ⟨a1, a2, a3, a4⟩, h4, h5, ⟨z1, z2, z3, z4⟩, h7, h8, b, hb, h9⟩ := h
  have hv := hW.alike
  refine ⟨h1, va_K.moved hv h2, ⟨a1.moved hv, a2.moved hv, a3.moved hv, a4.moved hv⟩, fun q hq => va_Nw.warmM hW (h4 q hq), fun q hq => va_Nw.warmF hW (h5 q hq), ⟨(z1.moved hv).kept hq, (z2.moved hv).kept hq, (z3.moved hv).kept hq, (z4.moved hv).kept hq⟩, fun a ha => ?_, fun i hi => ?_, b, hb, (h9.moved hv).kept hq⟩
  · obtain ⟨t, e, ht⟩ := h7 a ha
    exact ⟨t, e, (ht.moved hv).kept hq⟩
  · obtain ⟨q, t, e1, e2, k1, k2, k3, k4, k5⟩ := h8 i hi
    exact ⟨q, t, e1, e2, vk_R.warm hW k1, (k2.moved hv).kept hq, (k3.moved hv).kept hq, (k4.moved hv).kept hq, (k5.moved hv).kept hq⟩
theorem KS.calling {G : gG} {U : State} (h : KS G U) (g : JFrame) (mk : MethodId) (a : Array Value) : KS G (U.calling g mk a) := KS.to (U := U.calling g mk a) h (State.WarmedH.refl U) (fun _ _ _ => rfl)
/-- the method's own facts -/
def Cx (M : Nat → MI) (y : Nat) (p : Program) (R : Room) (s : State) (m : MethodId) (args : Array Value) (meth : Method) (c : Code) (G : gG) (d N0 nL : Nat) : Prop :=
  p.tables.exec = Jvm.exec ∧ c.code = (M y).2.1 ∧ c.maxLocals = nL ∧ meth.sig.returnType = (M y).2.2.2.1 ∧ meth.locks = false ∧ meth.name = (M y).1.name ∧ s.vm.findClass (M y).1.cls = some m.cls ∧ (∀ w ∈ lw_good, w.before args s = true) ∧ KS G s ∧ d + 1 ≤ R.frames ∧ 64 * d + 64 ≤ R.locals ∧ s.heap.size = gB G + N0
theorem Cx.x {M : Nat → MI} {y : Nat} {p : Program} {R : Room} {s : State} {m : MethodId} {args : Array Value} {meth : Method} {c : Code} {G : gG} {d N0 nL : Nat} (C : Cx M y p R s m args meth c G d N0 nL) : p.tables.exec = Jvm.exec := C.1
theorem Cx.b {M : Nat → MI} {y : Nat} {p : Program} {R : Room} {s : State} {m : MethodId} {args : Array Value} {meth : Method} {c : Code} {G : gG} {d N0 nL : Nat} (C : Cx M y p R s m args meth c G d N0 nL) : c.code = (M y).2.1 := C.2.1
theorem Cx.ml {M : Nat → MI} {y : Nat} {p : Program} {R : Room} {s : State} {m : MethodId} {args : Array Value} {meth : Method} {c : Code} {G : gG} {d N0 nL : Nat} (C : Cx M y p R s m args meth c G d N0 nL) : c.maxLocals = nL := C.2.2.1
theorem Cx.r {M : Nat → MI} {y : Nat} {p : Program} {R : Room} {s : State} {m : MethodId} {args : Array Value} {meth : Method} {c : Code} {G : gG} {d N0 nL : Nat} (C : Cx M y p R s m args meth c G d N0 nL) : meth.sig.returnType = (M y).2.2.2.1 := C.2.2.2.1
theorem Cx.lk {M : Nat → MI} {y : Nat} {p : Program} {R : Room} {s : State} {m : MethodId} {args : Array Value} {meth : Method} {c : Code} {G : gG} {d N0 nL : Nat} (C : Cx M y p R s m args meth c G d N0 nL) : meth.locks = false := C.2.2.2.2.1
theorem Cx.nm {M : Nat → MI} {y : Nat} {p : Program} {R : Room} {s : State} {m : MethodId} {args : Array Value} {meth : Method} {c : Code} {G : gG} {d N0 nL : Nat} (C : Cx M y p R s m args meth c G d N0 nL) : meth.name = (M y).1.name := C.2.2.2.2.2.1
theorem Cx.own {M : Nat → MI} {y : Nat} {p : Program} {R : Room} {s : State} {m : MethodId} {args : Array Value} {meth : Method} {c : Code} {G : gG} {d N0 nL : Nat} (C : Cx M y p R s m args meth c G d N0 nL) : s.vm.findClass (M y).1.cls = some m.cls := C.2.2.2.2.2.2.1
theorem Cx.ts {M : Nat → MI} {y : Nat} {p : Program} {R : Room} {s : State} {m : MethodId} {args : Array Value} {meth : Method} {c : Code} {G : gG} {d N0 nL : Nat} (C : Cx M y p R s m args meth c G d N0 nL) : ∀ w ∈ lw_good, w.before args s = true := C.2.2.2.2.2.2.2.1
theorem Cx.ks {M : Nat → MI} {y : Nat} {p : Program} {R : Room} {s : State} {m : MethodId} {args : Array Value} {meth : Method} {c : Code} {G : gG} {d N0 nL : Nat} (C : Cx M y p R s m args meth c G d N0 nL) : KS G s := C.2.2.2.2.2.2.2.2.1
theorem Cx.v {M : Nat → MI} {y : Nat} {p : Program} {R : Room} {s : State} {m : MethodId} {args : Array Value} {meth : Method} {c : Code} {G : gG} {d N0 nL : Nat} (C : Cx M y p R s m args meth c G d N0 nL) : ∀ a, gV G a = .null ∨ ∃ q, gV G a = .ref q := C.ks.1
theorem Cx.k {M : Nat → MI} {y : Nat} {p : Program} {R : Room} {s : State} {m : MethodId} {args : Array Value} {meth : Method} {c : Code} {G : gG} {d N0 nL : Nat} (C : Cx M y p R s m args meth c G d N0 nL) : va_K (gD G) vwCl (tyK G) s := C.ks.2.1
theorem Cx.fr {M : Nat → MI} {y : Nat} {p : Program} {R : Room} {s : State} {m : MethodId} {args : Array Value} {meth : Method} {c : Code} {G : gG} {d N0 nL : Nat} (C : Cx M y p R s m args meth c G d N0 nL) : d + 1 ≤ R.frames := C.2.2.2.2.2.2.2.2.2.1
theorem Cx.lo {M : Nat → MI} {y : Nat} {p : Program} {R : Room} {s : State} {m : MethodId} {args : Array Value} {meth : Method} {c : Code} {G : gG} {d N0 nL : Nat} (C : Cx M y p R s m args meth c G d N0 nL) : 64 * d + 64 ≤ R.locals := C.2.2.2.2.2.2.2.2.2.2.1
theorem Cx.sz {M : Nat → MI} {y : Nat} {p : Program} {R : Room} {s : State} {m : MethodId} {args : Array Value} {meth : Method} {c : Code} {G : gG} {d N0 nL : Nat} (C : Cx M y p R s m args meth c G d N0 nL) : s.heap.size = gB G + N0 := C.2.2.2.2.2.2.2.2.2.2.2
/-- from a configuration on, over every heap that holds its memory, the machine comes to Q -/
def WK (p : Program) (l : Launch) (e : Env) (R : Room) (s : State) (m : MethodId) (args : Array Value) (below : List Frame) (meth : Method) (c : Code) (Q : State → Prop) (G : gG) (N0 L0 nL : Nat) (q : aCfg) : Prop :=
  (wfM G q.2.2.2 ∧ N0 ≤ mN q.2.2.2 ∧ L0 ≤ mL q.2.2.2) → ∀ (H : Heap) (locs : List Loc) (ls : Array Slot), va_P (gD G) vwCl (wsOf G q.2.2.2) H → va_S (gA G) s.heap H locs → LH G ls nL q.2.1 → W p l e R s m args below meth c H locs (mN q.2.2.2 - N0) (mL q.2.2.2 - L0) Q (F0 m q.1 ls (q.2.2.1.map (cv G)))
section SND
variable {M : Nat → MI} {y d : Nat} {p : Program} {l : Launch} {e : Env} {R : Room} {s : State} {m : MethodId} {args : Array Value} {below : List Frame} {meth : Method} {c : Code} {Q : State → Prop} {G : gG} {N0 L0 nL : Nat}
variable {pc : Nat} {L r : List Value} {μ : aMem}
theorem k_iconst (C : Cx M y p R s m args meth c G d N0 nL) {n : Int} (hdg : decode (M y).2.1 pc = .ok (.iconst n, 1)) (k : WK p l e R s m args below meth c Q G N0 L0 nL (pc + 1, L, .int (Int32.ofInt n) :: r, μ)) : WK p l e R s m args below meth c Q G N0 L0 nL (pc, L, r, μ) := fun hw H locs ls hP hS hl => lv_iconst C.x C.b hdg rfl (k hw H locs ls hP hS hl)
theorem k_bipush (C : Cx M y p R s m args meth c G d N0 nL) {n : Int} (hdg : decode (M y).2.1 pc = .ok (.bipush n, 2)) (k : WK p l e R s m args below meth c Q G N0 L0 nL (pc + 2, L, .int (Int8.ofInt n).toInt32 :: r, μ)) : WK p l e R s m args below meth c Q G N0 L0 nL (pc, L, r, μ) := fun hw H locs ls hP hS hl => lv_bipush C.x C.b hdg rfl (k hw H locs ls hP hS hl)
theorem k_sipush (C : Cx M y p R s m args meth c G d N0 nL) {n : Int} (hdg : decode (M y).2.1 pc = .ok (.sipush n, 3)) (k : WK p l e R s m args below meth c Q G N0 L0 nL (pc + 3, L, .int (Int16.ofInt n).toInt32 :: r, μ)) : WK p l e R s m args below meth c Q G N0 L0 nL (pc, L, r, μ) := fun hw H locs ls hP hS hl => lv_sipush C.x C.b hdg rfl (k hw H locs ls hP hS hl)
theorem k_lconst (C : Cx M y p R s m args meth c G d N0 nL) {n : Fin 2} (hdg : decode (M y).2.1 pc = .ok (.lconst n, 1)) (k : WK p l e R s m args below meth c Q G N0 L0 nL (pc + 1, L, .long (Int64.ofNat (n : Nat)) :: r, μ)) : WK p l e R s m args below meth c Q G N0 L0 nL (pc, L, r, μ) := fun hw H locs ls hP hS hl => lv_lconst C.x C.b hdg rfl (k hw H locs ls hP hS hl)
theorem k_null (C : Cx M y p R s m args meth c G d N0 nL) (hdg : decode (M y).2.1 pc = .ok (.aconst_null, 1)) (k : WK p l e R s m args below meth c Q G N0 L0 nL (pc + 1, L, .ref 999999 :: r, μ)) : WK p l e R s m args below meth c Q G N0 L0 nL (pc, L, r, μ) := fun hw H locs ls hP hS hl => lv_null C.x C.b hdg (by have := k hw H locs ls hP hS hl; rw [List.map_cons, cv_nul] at this; exact this)
theorem k_iload_n (C : Cx M y p R s m args meth c G d N0 nL) {q : Fin 4} {x : Int32} (hdg : decode (M y).2.1 pc = .ok (.iload_n q, 1)) (hx : L[(q : Nat)]? = some (.int x)) (k : WK p l e R s m args below meth c Q G N0 L0 nL (pc + 1, L, .int x :: r, μ)) : WK p l e R s m args below meth c Q G N0 L0 nL (pc, L, r, μ) := fun hw H locs ls hP hS hl => lv_iload_n C.x C.b hdg rfl (hl.at hx (fun n h => by cases h)) (k hw H locs ls hP hS hl)
theorem k_iload (C : Cx M y p R s m args meth c G d N0 nL) {q : Nat} {x : Int32} (hdg : decode (M y).2.1 pc = .ok (.iload q, 2)) (hx : L[q]? = some (.int x)) (k : WK p l e R s m args below meth c Q G N0 L0 nL (pc + 2, L, .int x :: r, μ)) : WK p l e R s m args below meth c Q G N0 L0 nL (pc, L, r, μ) := fun hw H locs ls hP hS hl => lv_iload C.x C.b hdg (hl.at hx (fun n h => by cases h)) (k hw H locs ls hP hS hl)
theorem k_lload_n (C : Cx M y p R s m args meth c G d N0 nL) {q : Fin 4} {x : Int64} (hdg : decode (M y).2.1 pc = .ok (.lload_n q, 1)) (hx : L[(q : Nat)]? = some (.long x)) (k : WK p l e R s m args below meth c Q G N0 L0 nL (pc + 1, L, .long x :: r, μ)) : WK p l e R s m args below meth c Q G N0 L0 nL (pc, L, r, μ) := fun hw H locs ls hP hS hl => lv_lload_n C.x C.b hdg rfl (hl.at hx (fun n h => by cases h)) (k hw H locs ls hP hS hl)
theorem k_lload (C : Cx M y p R s m args meth c G d N0 nL) {q : Nat} {x : Int64} (hdg : decode (M y).2.1 pc = .ok (.lload q, 2)) (hx : L[q]? = some (.long x)) (k : WK p l e R s m args below meth c Q G N0 L0 nL (pc + 2, L, .long x :: r, μ)) : WK p l e R s m args below meth c Q G N0 L0 nL (pc, L, r, μ) := fun hw H locs ls hP hS hl => lv_lload C.x C.b hdg (hl.at hx (fun n h => by cases h)) (k hw H locs ls hP hS hl)
theorem cv_two (C : Cx M y p R s m args meth c G d N0 nL) (a : Nat) : cv G (.ref a) = .null ∨ ∃ q, cv G (.ref a) = .ref q := by
  rcases Nat.lt_or_ge a 999999 with h | h
  · exact Or.inr ⟨_, cv_own h⟩
  · by_cases e : a = 999999
    · subst e; exact Or.inl cv_nul
    · rw [cv_far (by omega)]; exact C.v a
theorem k_aload_n (C : Cx M y p R s m args meth c G d N0 nL) {q : Fin 4} {x : Nat} (hdg : decode (M y).2.1 pc = .ok (.aload_n q, 1)) (hx : L[(q : Nat)]? = some (.ref x)) (k : WK p l e R s m args below meth c Q G N0 L0 nL (pc + 1, L, .ref x :: r, μ)) : WK p l e R s m args below meth c Q G N0 L0 nL (pc, L, r, μ) := fun hw H locs ls hP hS hl => by
  have k1 := k hw H locs ls hP hS hl
  have h1 := hl.at hx (fun n h => by cases h)
  rw [List.map_cons] at k1
  rcases cv_two C x with e | ⟨q, e⟩
  · rw [e] at k1 h1
    exact lv_aload_nN C.x C.b hdg rfl h1 k1
  · rw [e] at k1 h1
    exact lv_aload_n C.x C.b hdg rfl h1 k1
theorem k_aload (C : Cx M y p R s m args meth c G d N0 nL) {q : Nat} {x : Nat} (hdg : decode (M y).2.1 pc = .ok (.aload q, 2)) (hx : L[q]? = some (.ref x)) (k : WK p l e R s m args below meth c Q G N0 L0 nL (pc + 2, L, .ref x :: r, μ)) : WK p l e R s m args below meth c Q G N0 L0 nL (pc, L, r, μ) := fun hw H locs ls hP hS hl => by
  have k1 := k hw H locs ls hP hS hl
  have h1 := hl.at hx (fun n h => by cases h)
  rw [List.map_cons] at k1
  rcases cv_two C x with e | ⟨q, e⟩
  · rw [e] at k1 h1
    exact lv_aloadN C.x C.b hdg h1 k1
  · rw [e] at k1 h1
    exact lv_aload C.x C.b hdg h1 k1
theorem k_istore_n (C : Cx M y p R s m args meth c G d N0 nL) {q : Fin 4} {x : Int32} (hdg : decode (M y).2.1 pc = .ok (.istore_n q, 1)) (hq : (q : Nat) < L.length) (k : WK p l e R s m args below meth c Q G N0 L0 nL (pc + 1, sto1 L q (.int x), r, μ)) : WK p l e R s m args below meth c Q G N0 L0 nL (pc, L, .int x :: r, μ) := fun hw H locs ls hP hS hl => lv_istore_n C.x C.b hdg rfl hl.lv (by rw [← hl.2.2.1]; exact hq) rfl (fun ls' h' => k hw H locs ls' hP hS (LH.st1 (v := .int x) C.v hl.2.2.1 h'))
theorem k_istore (C : Cx M y p R s m args meth c G d N0 nL) {q : Nat} {x : Int32} (hdg : decode (M y).2.1 pc = .ok (.istore q, 2)) (hq : q < L.length) (k : WK p l e R s m args below meth c Q G N0 L0 nL (pc + 2, sto1 L q (.int x), r, μ)) : WK p l e R s m args below meth c Q G N0 L0 nL (pc, L, .int x :: r, μ) := fun hw H locs ls hP hS hl => lv_istore C.x C.b hdg hl.lv (by rw [← hl.2.2.1]; exact hq) rfl (fun ls' h' => k hw H locs ls' hP hS (LH.st1 (v := .int x) C.v hl.2.2.1 h'))
theorem k_lstore_n (C : Cx M y p R s m args meth c G d N0 nL) {q : Fin 4} {x : Int64} (hdg : decode (M y).2.1 pc = .ok (.lstore_n q, 1)) (hq : (q : Nat) + 1 < L.length) (k : WK p l e R s m args below meth c Q G N0 L0 nL (pc + 1, sto2 L q (.long x), r, μ)) : WK p l e R s m args below meth c Q G N0 L0 nL (pc, L, .long x :: r, μ) := fun hw H locs ls hP hS hl => lv_lstore_n C.x C.b hdg rfl hl.lv (by rw [← hl.2.2.1]; exact hq) rfl (fun ls' h' => k hw H locs ls' hP hS (LH.st2 (v := .long x) C.v hl.2.2.1 h'))
theorem k_lstore (C : Cx M y p R s m args meth c G d N0 nL) {q : Nat} {x : Int64} (hdg : decode (M y).2.1 pc = .ok (.lstore q, 2)) (hq : q + 1 < L.length) (k : WK p l e R s m args below meth c Q G N0 L0 nL (pc + 2, sto2 L q (.long x), r, μ)) : WK p l e R s m args below meth c Q G N0 L0 nL (pc, L, .long x :: r, μ) := fun hw H locs ls hP hS hl => lv_lstore C.x C.b hdg hl.lv (by rw [← hl.2.2.1]; exact hq) rfl (fun ls' h' => k hw H locs ls' hP hS (LH.st2 (v := .long x) C.v hl.2.2.1 h'))
theorem k_astore_n (C : Cx M y p R s m args meth c G d N0 nL) {q : Fin 4} {x : Nat} (hdg : decode (M y).2.1 pc = .ok (.astore_n q, 1)) (hq : (q : Nat) < L.length) (k : WK p l e R s m args below meth c Q G N0 L0 nL (pc + 1, sto1 L q (.ref x), r, μ)) : WK p l e R s m args below meth c Q G N0 L0 nL (pc, L, .ref x :: r, μ) := fun hw H locs ls hP hS hl => by
  show W p l e R s m args below meth c H locs _ _ Q (F0 m pc ls (cv G (.ref x) :: r.map (cv G)))
  rcases cv_two C x with e | ⟨q', e⟩
  · rw [e]
    exact lv_astore_nN C.x C.b hdg rfl hl.lv (by rw [← hl.2.2.1]; exact hq) rfl (fun ls' h' => k hw H locs ls' hP hS (LH.st1 (v := .ref x) C.v hl.2.2.1 (by rw [e]; exact h')))
  · rw [e]
    exact lv_astore_n C.x C.b hdg rfl hl.lv (by rw [← hl.2.2.1]; exact hq) rfl (fun ls' h' => k hw H locs ls' hP hS (LH.st1 (v := .ref x) C.v hl.2.2.1 (by rw [e]; exact h')))
theorem k_astore (C : Cx M y p R s m args meth c G d N0 nL) {q : Nat} {x : Nat} (hdg : decode (M y).2.1 pc = .ok (.astore q, 2)) (hq : q < L.length) (k : WK p l e R s m args below meth c Q G N0 L0 nL (pc + 2, sto1 L q (.ref x), r, μ)) : WK p l e R s m args below meth c Q G N0 L0 nL (pc, L, .ref x :: r, μ) := fun hw H locs ls hP hS hl => by
  show W p l e R s m args below meth c H locs _ _ Q (F0 m pc ls (cv G (.ref x) :: r.map (cv G)))
  rcases cv_two C x with e | ⟨q', e⟩
  · rw [e]
    exact lv_astoreN C.x C.b hdg hl.lv (by rw [← hl.2.2.1]; exact hq) rfl (fun ls' h' => k hw H locs ls' hP hS (LH.st1 (v := .ref x) C.v hl.2.2.1 (by rw [e]; exact h')))
  · rw [e]
    exact lv_astore C.x C.b hdg hl.lv (by rw [← hl.2.2.1]; exact hq) rfl (fun ls' h' => k hw H locs ls' hP hS (LH.st1 (v := .ref x) C.v hl.2.2.1 (by rw [e]; exact h')))
theorem k_iinc (C : Cx M y p R s m args meth c G d N0 nL) {q : Nat} {n : Int} {x : Int32} (hdg : decode (M y).2.1 pc = .ok (.iinc q n, 3)) (hx : L[q]? = some (.int x)) (hq : q < L.length) (k : WK p l e R s m args below meth c Q G N0 L0 nL (pc + 3, sto1 L q (.int (x + Int32.ofInt n)), r, μ)) : WK p l e R s m args below meth c Q G N0 L0 nL (pc, L, r, μ) := fun hw H locs ls hP hS hl => by
  obtain ⟨j, hj⟩ := List.getElem?_of_mem (lvOf_mem (G := G) hx (fun n h => by cases h))
  exact lv_iinc C.x C.b hdg hl.lv hj rfl (by rw [← hl.2.2.1]; exact hq) rfl (fun ls' h' => k hw H locs ls' hP hS (LH.st1 (v := .int (x + Int32.ofInt n)) C.v hl.2.2.1 h'))
theorem k_iadd (C : Cx M y p R s m args meth c G d N0 nL) {x z : Int32} (hdg : decode (M y).2.1 pc = .ok (.iadd, 1)) (k : WK p l e R s m args below meth c Q G N0 L0 nL (pc + 1, L, .int (x + z) :: r, μ)) : WK p l e R s m args below meth c Q G N0 L0 nL (pc, L, .int z :: .int x :: r, μ) := fun hw H locs ls hP hS hl => lv_iadd C.x C.b hdg (k hw H locs ls hP hS hl)
theorem k_isub (C : Cx M y p R s m args meth c G d N0 nL) {x z : Int32} (hdg : decode (M y).2.1 pc = .ok (.isub, 1)) (k : WK p l e R s m args below meth c Q G N0 L0 nL (pc + 1, L, .int (x - z) :: r, μ)) : WK p l e R s m args below meth c Q G N0 L0 nL (pc, L, .int z :: .int x :: r, μ) := fun hw H locs ls hP hS hl => lv_isub C.x C.b hdg (k hw H locs ls hP hS hl)
theorem k_imul (C : Cx M y p R s m args meth c G d N0 nL) {x z : Int32} (hdg : decode (M y).2.1 pc = .ok (.imul, 1)) (k : WK p l e R s m args below meth c Q G N0 L0 nL (pc + 1, L, .int (x * z) :: r, μ)) : WK p l e R s m args below meth c Q G N0 L0 nL (pc, L, .int z :: .int x :: r, μ) := fun hw H locs ls hP hS hl => lv_imul C.x C.b hdg (k hw H locs ls hP hS hl)
theorem k_iand (C : Cx M y p R s m args meth c G d N0 nL) {x z : Int32} (hdg : decode (M y).2.1 pc = .ok (.iand, 1)) (k : WK p l e R s m args below meth c Q G N0 L0 nL (pc + 1, L, .int (x &&& z) :: r, μ)) : WK p l e R s m args below meth c Q G N0 L0 nL (pc, L, .int z :: .int x :: r, μ) := fun hw H locs ls hP hS hl => lv_iand C.x C.b hdg (k hw H locs ls hP hS hl)
theorem k_ior (C : Cx M y p R s m args meth c G d N0 nL) {x z : Int32} (hdg : decode (M y).2.1 pc = .ok (.ior, 1)) (k : WK p l e R s m args below meth c Q G N0 L0 nL (pc + 1, L, .int (x ||| z) :: r, μ)) : WK p l e R s m args below meth c Q G N0 L0 nL (pc, L, .int z :: .int x :: r, μ) := fun hw H locs ls hP hS hl => lv_ior C.x C.b hdg (k hw H locs ls hP hS hl)
theorem k_ixor (C : Cx M y p R s m args meth c G d N0 nL) {x z : Int32} (hdg : decode (M y).2.1 pc = .ok (.ixor, 1)) (k : WK p l e R s m args below meth c Q G N0 L0 nL (pc + 1, L, .int (x ^^^ z) :: r, μ)) : WK p l e R s m args below meth c Q G N0 L0 nL (pc, L, .int z :: .int x :: r, μ) := fun hw H locs ls hP hS hl => lv_ixor C.x C.b hdg (k hw H locs ls hP hS hl)
theorem k_ishl (C : Cx M y p R s m args meth c G d N0 nL) {x z : Int32} (hdg : decode (M y).2.1 pc = .ok (.ishl, 1)) (k : WK p l e R s m args below meth c Q G N0 L0 nL (pc + 1, L, .int (x <<< (z &&& 31)) :: r, μ)) : WK p l e R s m args below meth c Q G N0 L0 nL (pc, L, .int z :: .int x :: r, μ) := fun hw H locs ls hP hS hl => lv_ishl C.x C.b hdg (k hw H locs ls hP hS hl)
theorem k_ishr (C : Cx M y p R s m args meth c G d N0 nL) {x z : Int32} (hdg : decode (M y).2.1 pc = .ok (.ishr, 1)) (k : WK p l e R s m args below meth c Q G N0 L0 nL (pc + 1, L, .int (x >>> (z &&& 31)) :: r, μ)) : WK p l e R s m args below meth c Q G N0 L0 nL (pc, L, .int z :: .int x :: r, μ) := fun hw H locs ls hP hS hl => lv_ishr C.x C.b hdg (k hw H locs ls hP hS hl)
theorem k_ladd (C : Cx M y p R s m args meth c G d N0 nL) {x z : Int64} (hdg : decode (M y).2.1 pc = .ok (.ladd, 1)) (k : WK p l e R s m args below meth c Q G N0 L0 nL (pc + 1, L, .long (x + z) :: r, μ)) : WK p l e R s m args below meth c Q G N0 L0 nL (pc, L, .long z :: .long x :: r, μ) := fun hw H locs ls hP hS hl => lv_ladd C.x C.b hdg (k hw H locs ls hP hS hl)
theorem k_lmul (C : Cx M y p R s m args meth c G d N0 nL) {x z : Int64} (hdg : decode (M y).2.1 pc = .ok (.lmul, 1)) (k : WK p l e R s m args below meth c Q G N0 L0 nL (pc + 1, L, .long (x * z) :: r, μ)) : WK p l e R s m args below meth c Q G N0 L0 nL (pc, L, .long z :: .long x :: r, μ) := fun hw H locs ls hP hS hl => lv_lmul C.x C.b hdg (k hw H locs ls hP hS hl)
theorem k_idiv (C : Cx M y p R s m args meth c G d N0 nL) {x z : Int32} (hdg : decode (M y).2.1 pc = .ok (.idiv, 1)) (hz : ¬ z = 0) (k : WK p l e R s m args below meth c Q G N0 L0 nL (pc + 1, L, .int (x / z) :: r, μ)) : WK p l e R s m args below meth c Q G N0 L0 nL (pc, L, .int z :: .int x :: r, μ) := fun hw H locs ls hP hS hl => lv_idiv C.x C.b hdg hz (k hw H locs ls hP hS hl)
theorem k_irem (C : Cx M y p R s m args meth c G d N0 nL) {x z : Int32} (hdg : decode (M y).2.1 pc = .ok (.irem, 1)) (hz : ¬ z = 0) (k : WK p l e R s m args below meth c Q G N0 L0 nL (pc + 1, L, .int (x - x / z * z) :: r, μ)) : WK p l e R s m args below meth c Q G N0 L0 nL (pc, L, .int z :: .int x :: r, μ) := fun hw H locs ls hP hS hl => lv_irem C.x C.b hdg hz (k hw H locs ls hP hS hl)
theorem k_ldiv (C : Cx M y p R s m args meth c G d N0 nL) {x z : Int64} (hdg : decode (M y).2.1 pc = .ok (.ldiv, 1)) (hz : ¬ z = 0) (k : WK p l e R s m args below meth c Q G N0 L0 nL (pc + 1, L, .long (x / z) :: r, μ)) : WK p l e R s m args below meth c Q G N0 L0 nL (pc, L, .long z :: .long x :: r, μ) := fun hw H locs ls hP hS hl => lv_ldiv C.x C.b hdg hz (k hw H locs ls hP hS hl)
theorem k_lrem (C : Cx M y p R s m args meth c G d N0 nL) {x z : Int64} (hdg : decode (M y).2.1 pc = .ok (.lrem, 1)) (hz : ¬ z = 0) (k : WK p l e R s m args below meth c Q G N0 L0 nL (pc + 1, L, .long (x - x / z * z) :: r, μ)) : WK p l e R s m args below meth c Q G N0 L0 nL (pc, L, .long z :: .long x :: r, μ) := fun hw H locs ls hP hS hl => lv_lrem C.x C.b hdg hz (k hw H locs ls hP hS hl)
theorem k_lcmp (C : Cx M y p R s m args meth c G d N0 nL) {x z : Int64} (hdg : decode (M y).2.1 pc = .ok (.lcmp, 1)) (k : WK p l e R s m args below meth c Q G N0 L0 nL (pc + 1, L, .int (lg_cmp x z) :: r, μ)) : WK p l e R s m args below meth c Q G N0 L0 nL (pc, L, .long z :: .long x :: r, μ) := fun hw H locs ls hP hS hl => W.lcmp C.x C.b hdg (k hw H locs ls hP hS hl)
theorem k_ineg (C : Cx M y p R s m args meth c G d N0 nL) {x : Int32} (hdg : decode (M y).2.1 pc = .ok (.ineg, 1)) (k : WK p l e R s m args below meth c Q G N0 L0 nL (pc + 1, L, .int (-x) :: r, μ)) : WK p l e R s m args below meth c Q G N0 L0 nL (pc, L, .int x :: r, μ) := fun hw H locs ls hP hS hl => lv_ineg C.x C.b hdg (k hw H locs ls hP hS hl)
theorem k_iushr (C : Cx M y p R s m args meth c G d N0 nL) {x z : Int32} (hdg : decode (M y).2.1 pc = .ok (.iushr, 1)) (k : WK p l e R s m args below meth c Q G N0 L0 nL (pc + 1, L, .int (x.toUInt32 >>> (z.toUInt32 &&& Int32.toUInt32 31)).toInt32 :: r, μ)) : WK p l e R s m args below meth c Q G N0 L0 nL (pc, L, .int z :: .int x :: r, μ) := fun hw H locs ls hP hS hl => lv_iushr C.x C.b hdg rfl (k hw H locs ls hP hS hl)
theorem k_i2l (C : Cx M y p R s m args meth c G d N0 nL) {x : Int32} (hdg : decode (M y).2.1 pc = .ok (.i2l, 1)) (k : WK p l e R s m args below meth c Q G N0 L0 nL (pc + 1, L, .long x.toInt64 :: r, μ)) : WK p l e R s m args below meth c Q G N0 L0 nL (pc, L, .int x :: r, μ) := fun hw H locs ls hP hS hl => lv_i2l C.x C.b hdg rfl (k hw H locs ls hP hS hl)
theorem k_i2s (C : Cx M y p R s m args meth c G d N0 nL) {x : Int32} (hdg : decode (M y).2.1 pc = .ok (.i2s, 1)) (k : WK p l e R s m args below meth c Q G N0 L0 nL (pc + 1, L, .int x.toInt16.toInt32 :: r, μ)) : WK p l e R s m args below meth c Q G N0 L0 nL (pc, L, .int x :: r, μ) := fun hw H locs ls hP hS hl => lv_i2s C.x C.b hdg rfl (k hw H locs ls hP hS hl)
theorem k_i2b (C : Cx M y p R s m args meth c G d N0 nL) {x : Int32} (hdg : decode (M y).2.1 pc = .ok (.i2b, 1)) (k : WK p l e R s m args below meth c Q G N0 L0 nL (pc + 1, L, .int x.toInt8.toInt32 :: r, μ)) : WK p l e R s m args below meth c Q G N0 L0 nL (pc, L, .int x :: r, μ) := fun hw H locs ls hP hS hl => lv_i2b C.x C.b hdg rfl (k hw H locs ls hP hS hl)
theorem k_i2c (C : Cx M y p R s m args meth c G d N0 nL) {x : Int32} (hdg : decode (M y).2.1 pc = .ok (.i2c, 1)) (k : WK p l e R s m args below meth c Q G N0 L0 nL (pc + 1, L, .int (x.toUInt32 % 65536).toInt32 :: r, μ)) : WK p l e R s m args below meth c Q G N0 L0 nL (pc, L, .int x :: r, μ) := fun hw H locs ls hP hS hl => lv_i2c C.x C.b hdg rfl (k hw H locs ls hP hS hl)
theorem k_dup (C : Cx M y p R s m args meth c G d N0 nL) {v : Value} (hdg : decode (M y).2.1 pc = .ok (.dup, 1)) (hv : v.category = 1) (k : WK p l e R s m args below meth c Q G N0 L0 nL (pc + 1, L, v :: v :: r, μ)) : WK p l e R s m args below meth c Q G N0 L0 nL (pc, L, v :: r, μ) := fun hw H locs ls hP hS hl => lv_dup C.x C.b hdg ((cv_cat C.v v).trans hv) (k hw H locs ls hP hS hl)
theorem k_pop (C : Cx M y p R s m args meth c G d N0 nL) {v : Value} (hdg : decode (M y).2.1 pc = .ok (.pop, 1)) (hv : v.category = 1) (k : WK p l e R s m args below meth c Q G N0 L0 nL (pc + 1, L, r, μ)) : WK p l e R s m args below meth c Q G N0 L0 nL (pc, L, v :: r, μ) := fun hw H locs ls hP hS hl => lv_pop C.x C.b hdg ((cv_cat C.v v).trans hv) (k hw H locs ls hP hS hl)
theorem k_dup2 (C : Cx M y p R s m args meth c G d N0 nL) {v w : Value} (hdg : decode (M y).2.1 pc = .ok (.dup2, 1)) (hv : v.category = 1) (hw' : w.category = 1) (k : WK p l e R s m args below meth c Q G N0 L0 nL (pc + 1, L, v :: w :: v :: w :: r, μ)) : WK p l e R s m args below meth c Q G N0 L0 nL (pc, L, v :: w :: r, μ) := fun hw H locs ls hP hS hl => lv_dup2_11 C.x C.b hdg ((cv_cat C.v v).trans hv) ((cv_cat C.v w).trans hw') (k hw H locs ls hP hS hl)
theorem tgt_eq {pc : Nat} {off : Int} (h : 0 ≤ (pc : Int) + off) : (pc : Int) + off = (tgt pc off : Int) := (Int.toNat_of_nonneg h).symm
theorem k_goto (C : Cx M y p R s m args meth c G d N0 nL) {off : Int} (hdg : decode (M y).2.1 pc = .ok (.goto off, 3)) (h : 0 ≤ (pc : Int) + off) (k : WK p l e R s m args below meth c Q G N0 L0 nL (tgt pc off, L, r, μ)) : WK p l e R s m args below meth c Q G N0 L0 nL (pc, L, r, μ) := fun hw H locs ls hP hS hl => lv_goto C.x C.b hdg (tgt_eq h) (k hw H locs ls hP hS hl)
theorem k_icmp_eq (C : Cx M y p R s m args meth c G d N0 nL) {x z : Int32} {off : Int} (hdg : decode (M y).2.1 pc = .ok (.if_icmp .eq off, 3)) (h : 0 ≤ (pc : Int) + off) (k : WK p l e R s m args below meth c Q G N0 L0 nL (if cnd .eq x z = true then (tgt pc off, L, r, μ) else (pc + 3, L, r, μ))) : WK p l e R s m args below meth c Q G N0 L0 nL (pc, L, .int z :: .int x :: r, μ) := fun hw H locs ls hP hS hl => lv_icmp_eq C.x C.b hdg (tgt_eq h) (fun hc => by
  rw [if_pos (by simpa [cnd] using hc)] at k; exact k hw H locs ls hP hS hl) (fun hc => by
  rw [if_neg (by simpa [cnd] using hc)] at k; exact k hw H locs ls hP hS hl)
theorem k_if_eq (C : Cx M y p R s m args meth c G d N0 nL) {x : Int32} {off : Int} (hdg : decode (M y).2.1 pc = .ok (.ifCond .eq off, 3)) (h : 0 ≤ (pc : Int) + off) (k : WK p l e R s m args below meth c Q G N0 L0 nL (if cnd .eq x 0 = true then (tgt pc off, L, r, μ) else (pc + 3, L, r, μ))) : WK p l e R s m args below meth c Q G N0 L0 nL (pc, L, .int x :: r, μ) := fun hw H locs ls hP hS hl => lv_if_eq C.x C.b hdg (tgt_eq h) (fun hc => by
  rw [if_pos (by simpa [cnd] using hc)] at k; exact k hw H locs ls hP hS hl) (fun hc => by
  rw [if_neg (by simpa [cnd] using hc)] at k; exact k hw H locs ls hP hS hl)
theorem k_icmp_ne (C : Cx M y p R s m args meth c G d N0 nL) {x z : Int32} {off : Int} (hdg : decode (M y).2.1 pc = .ok (.if_icmp .ne off, 3)) (h : 0 ≤ (pc : Int) + off) (k : WK p l e R s m args below meth c Q G N0 L0 nL (if cnd .ne x z = true then (tgt pc off, L, r, μ) else (pc + 3, L, r, μ))) : WK p l e R s m args below meth c Q G N0 L0 nL (pc, L, .int z :: .int x :: r, μ) := fun hw H locs ls hP hS hl => lv_icmp_ne C.x C.b hdg (tgt_eq h) (fun hc => by
  rw [if_pos (by simpa [cnd] using hc)] at k; exact k hw H locs ls hP hS hl) (fun hc => by
  rw [if_neg (by simpa [cnd] using hc)] at k; exact k hw H locs ls hP hS hl)
theorem k_if_ne (C : Cx M y p R s m args meth c G d N0 nL) {x : Int32} {off : Int} (hdg : decode (M y).2.1 pc = .ok (.ifCond .ne off, 3)) (h : 0 ≤ (pc : Int) + off) (k : WK p l e R s m args below meth c Q G N0 L0 nL (if cnd .ne x 0 = true then (tgt pc off, L, r, μ) else (pc + 3, L, r, μ))) : WK p l e R s m args below meth c Q G N0 L0 nL (pc, L, .int x :: r, μ) := fun hw H locs ls hP hS hl => lv_if_ne C.x C.b hdg (tgt_eq h) (fun hc => by
  rw [if_pos (by simpa [cnd] using hc)] at k; exact k hw H locs ls hP hS hl) (fun hc => by
  rw [if_neg (by simpa [cnd] using hc)] at k; exact k hw H locs ls hP hS hl)
theorem k_icmp_lt (C : Cx M y p R s m args meth c G d N0 nL) {x z : Int32} {off : Int} (hdg : decode (M y).2.1 pc = .ok (.if_icmp .lt off, 3)) (h : 0 ≤ (pc : Int) + off) (k : WK p l e R s m args below meth c Q G N0 L0 nL (if cnd .lt x z = true then (tgt pc off, L, r, μ) else (pc + 3, L, r, μ))) : WK p l e R s m args below meth c Q G N0 L0 nL (pc, L, .int z :: .int x :: r, μ) := fun hw H locs ls hP hS hl => lv_icmp_lt C.x C.b hdg (tgt_eq h) (fun hc => by
  rw [if_pos (by simpa [cnd] using hc)] at k; exact k hw H locs ls hP hS hl) (fun hc => by
  rw [if_neg (by simpa [cnd] using hc)] at k; exact k hw H locs ls hP hS hl)
theorem k_if_lt (C : Cx M y p R s m args meth c G d N0 nL) {x : Int32} {off : Int} (hdg : decode (M y).2.1 pc = .ok (.ifCond .lt off, 3)) (h : 0 ≤ (pc : Int) + off) (k : WK p l e R s m args below meth c Q G N0 L0 nL (if cnd .lt x 0 = true then (tgt pc off, L, r, μ) else (pc + 3, L, r, μ))) : WK p l e R s m args below meth c Q G N0 L0 nL (pc, L, .int x :: r, μ) := fun hw H locs ls hP hS hl => lv_if_lt C.x C.b hdg (tgt_eq h) (fun hc => by
  rw [if_pos (by simpa [cnd] using hc)] at k; exact k hw H locs ls hP hS hl) (fun hc => by
  rw [if_neg (by simpa [cnd] using hc)] at k; exact k hw H locs ls hP hS hl)
theorem k_icmp_ge (C : Cx M y p R s m args meth c G d N0 nL) {x z : Int32} {off : Int} (hdg : decode (M y).2.1 pc = .ok (.if_icmp .ge off, 3)) (h : 0 ≤ (pc : Int) + off) (k : WK p l e R s m args below meth c Q G N0 L0 nL (if cnd .ge x z = true then (tgt pc off, L, r, μ) else (pc + 3, L, r, μ))) : WK p l e R s m args below meth c Q G N0 L0 nL (pc, L, .int z :: .int x :: r, μ) := fun hw H locs ls hP hS hl => lv_icmp_ge C.x C.b hdg (tgt_eq h) (fun hc => by
  rw [if_pos (by simpa [cnd] using hc)] at k; exact k hw H locs ls hP hS hl) (fun hc => by
  rw [if_neg (by simpa [cnd] using hc)] at k; exact k hw H locs ls hP hS hl)
theorem k_if_ge (C : Cx M y p R s m args meth c G d N0 nL) {x : Int32} {off : Int} (hdg : decode (M y).2.1 pc = .ok (.ifCond .ge off, 3)) (h : 0 ≤ (pc : Int) + off) (k : WK p l e R s m args below meth c Q G N0 L0 nL (if cnd .ge x 0 = true then (tgt pc off, L, r, μ) else (pc + 3, L, r, μ))) : WK p l e R s m args below meth c Q G N0 L0 nL (pc, L, .int x :: r, μ) := fun hw H locs ls hP hS hl => lv_if_ge C.x C.b hdg (tgt_eq h) (fun hc => by
  rw [if_pos (by simpa [cnd] using hc)] at k; exact k hw H locs ls hP hS hl) (fun hc => by
  rw [if_neg (by simpa [cnd] using hc)] at k; exact k hw H locs ls hP hS hl)
theorem k_icmp_gt (C : Cx M y p R s m args meth c G d N0 nL) {x z : Int32} {off : Int} (hdg : decode (M y).2.1 pc = .ok (.if_icmp .gt off, 3)) (h : 0 ≤ (pc : Int) + off) (k : WK p l e R s m args below meth c Q G N0 L0 nL (if cnd .gt x z = true then (tgt pc off, L, r, μ) else (pc + 3, L, r, μ))) : WK p l e R s m args below meth c Q G N0 L0 nL (pc, L, .int z :: .int x :: r, μ) := fun hw H locs ls hP hS hl => lv_icmp_gt C.x C.b hdg (tgt_eq h) (fun hc => by
  rw [if_pos (by simpa [cnd] using hc)] at k; exact k hw H locs ls hP hS hl) (fun hc => by
  rw [if_neg (by simpa [cnd] using hc)] at k; exact k hw H locs ls hP hS hl)
theorem k_if_gt (C : Cx M y p R s m args meth c G d N0 nL) {x : Int32} {off : Int} (hdg : decode (M y).2.1 pc = .ok (.ifCond .gt off, 3)) (h : 0 ≤ (pc : Int) + off) (k : WK p l e R s m args below meth c Q G N0 L0 nL (if cnd .gt x 0 = true then (tgt pc off, L, r, μ) else (pc + 3, L, r, μ))) : WK p l e R s m args below meth c Q G N0 L0 nL (pc, L, .int x :: r, μ) := fun hw H locs ls hP hS hl => lv_if_gt C.x C.b hdg (tgt_eq h) (fun hc => by
  rw [if_pos (by simpa [cnd] using hc)] at k; exact k hw H locs ls hP hS hl) (fun hc => by
  rw [if_neg (by simpa [cnd] using hc)] at k; exact k hw H locs ls hP hS hl)
theorem k_icmp_le (C : Cx M y p R s m args meth c G d N0 nL) {x z : Int32} {off : Int} (hdg : decode (M y).2.1 pc = .ok (.if_icmp .le off, 3)) (h : 0 ≤ (pc : Int) + off) (k : WK p l e R s m args below meth c Q G N0 L0 nL (if cnd .le x z = true then (tgt pc off, L, r, μ) else (pc + 3, L, r, μ))) : WK p l e R s m args below meth c Q G N0 L0 nL (pc, L, .int z :: .int x :: r, μ) := fun hw H locs ls hP hS hl => lv_icmp_le C.x C.b hdg (tgt_eq h) (fun hc => by
  rw [if_pos (by simpa [cnd] using hc)] at k; exact k hw H locs ls hP hS hl) (fun hc => by
  rw [if_neg (by simpa [cnd] using hc)] at k; exact k hw H locs ls hP hS hl)
theorem k_if_le (C : Cx M y p R s m args meth c G d N0 nL) {x : Int32} {off : Int} (hdg : decode (M y).2.1 pc = .ok (.ifCond .le off, 3)) (h : 0 ≤ (pc : Int) + off) (k : WK p l e R s m args below meth c Q G N0 L0 nL (if cnd .le x 0 = true then (tgt pc off, L, r, μ) else (pc + 3, L, r, μ))) : WK p l e R s m args below meth c Q G N0 L0 nL (pc, L, .int x :: r, μ) := fun hw H locs ls hP hS hl => lv_if_le C.x C.b hdg (tgt_eq h) (fun hc => by
  rw [if_pos (by simpa [cnd] using hc)] at k; exact k hw H locs ls hP hS hl) (fun hc => by
  rw [if_neg (by simpa [cnd] using hc)] at k; exact k hw H locs ls hP hS hl)
end SND
