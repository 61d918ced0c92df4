def rmD (d mc ms : Nat) : Room := { frames := d + 1, cells := mc, slots := ms, locals := 64 * d + 64 }
def wsM (M : Nat → MI) (y : Nat) : List Cond := .code (M y).1 (M y).2.1 (M y).2.2.1 (M y).2.2.2.1 :: lw_good
def PcM (G : gG) (μ : aMem) (as : List Value) : Array Value → State → Prop := fun v U => v = (as.map (cv G)).toArray ∧ va_P (gD G) vwCl (wsOf G μ) U.heap ∧ KS G U ∧ U.heap.size = gB G + mN μ
def QcM (G : gG) (r : Option Value) (μ1 : aMem) : Array Value → State → Outcome → State → Prop := fun _ st oc t => oc = .returned (r.map (cv G)) ∧ va_P (gD G) vwCl (wsOf G μ1) t.heap ∧ va_F (gA G) st t
def mokM (M : Nat → MI) (y : Nat) : Prop := plainName (M y).1.cls = true ∧ Cond.code (M y).1 (M y).2.1 (M y).2.2.1 (M y).2.2.2.1 ∈ lw_good ∧ Cond.initialized (M y).1.cls ∈ lw_good ∧ ((M y).1.cls ≠ "java/lang/invoke/MethodHandle" ∧ (M y).1.cls ≠ "java/lang/invoke/VarHandle") ∧ (M y).2.2.1 ≤ 45
theorem PcM_blind (G : gG) (μ : aMem) (as : List Value) : FrameBlind (PcM G μ as) := fun a U g mk q => ⟨q.1, q.2.1, q.2.2.1.calling g mk a, q.2.2.2⟩
theorem wsM_good {M : Nat → MI} {y : Nat} (h : mokM M y) : GoodIn lw_good (wsM M y) := by
  intro w hw
  have hm : w ∈ lw_good := by
    rcases List.mem_cons.mp hw with e | e
    · rw [e]; exact h.2.1
    · exact e
  exact ⟨hm, good_of_word (List.mem_filter.mp hm).2⟩
section SNF
variable {M : Nat → MI} {y d : Nat} {p : Program} {l : Launch} {e : Env} {R : Room} {s : State} {m : MethodId} {args : Array Value} {below : List Frame} {meth : Method} {c : Code} {Q : State → Prop} {G : gG} {N0 L0 nL : Nat}
variable {pc : Nat} {L r : List Value} {μ : aMem}
theorem w_size (C : Cx M y p R s m args meth c G d N0 nL) (hN : N0 ≤ mN μ) {H : Heap} {locs : List Loc} {slots : Nat} {g : JFrame} (hP : va_P (gD G) vwCl (wsOf G μ) H) (hS : va_S (gA G) s.heap H locs) (k : H.size = gB G + mN μ → W p l e R s m args below meth c H locs (mN μ - N0) slots Q g) : W p l e R s m args below meth c H locs (mN μ - N0) slots Q g := fun T hT X => by
  refine k ?_ T hT X
  have h1 := X.heapSize
  rw [hT, C.sz] at h1
  have h2 := hS.1
  rw [C.sz] at h2
  by_cases h0 : mN μ = 0
  · omega
  · have h3 := (hP (mN μ - 1) _ (ws_get G μ (show mN μ - 1 < mN μ by omega))).lt
    dsimp only at h3
    omega
theorem w_newq (C : Cx M y p R s m args meth c G d N0 nL) (hN : N0 ≤ mN μ) {H1 : Heap} {locs : List Loc} {q slots : Nat} {x : va_E} {g : JFrame} (hP1 : va_P (gD G) vwCl (wsOf G μ ++ [(q, x)]) H1) (hD1 : va_D (gA G) (wsOf G μ ++ [(q, x)])) (k : q = gB G + mN μ → W p l e R s m args below meth c H1 locs (mN μ - N0 + 1) slots Q g) : W p l e R s m args below meth c H1 locs (mN μ - N0 + 1) slots Q g := fun T hT X => by
  refine k ?_ T hT X
  have h1 := X.heapSize
  rw [hT, C.sz] at h1
  have hlen : (wsOf G μ).length = mN μ := by simp [wsOf]
  have hq : (wsOf G μ ++ [(q, x)])[mN μ]? = some (q, x) := by rw [List.getElem?_append_right (by rw [hlen]; exact Nat.le_refl _), hlen, Nat.sub_self]; rfl
  have h2 := (hP1 _ _ hq).lt
  have h3 : gB G ≤ q := hD1.2 _ _ hq
  dsimp only at h2
  rcases Nat.lt_or_ge q (gB G + mN μ) with h4 | h4
  · have ha : q - gB G < mN μ := by omega
    have hg : (wsOf G μ ++ [(q, x)])[q - gB G]? = some (gB G + (q - gB G), cellE G μ (q - gB G)) := by
      rw [List.getElem?_append_left (by rw [hlen]; exact ha)]; exact ws_get G μ ha
    have := hD1.1 _ _ _ _ hg hq (by show gB G + (q - gB G) = q; omega)
    omega
  · omega
theorem dfAll : ∀ (ci : Nat) (r : vw_C), vwCl[ci]? = some r → ∀ j, j < r.2.2 → defaultValue (tyO ci j) = (if isR (tyO ci j) = true then .null else .int 0) := by
  intro ci r h
  match ci, h with
  | 0, h => cases h; decide +kernel
  | 1, h => cases h; decide +kernel
  | 2, h => cases h; decide +kernel
  | 3, h => cases h; decide +kernel
  | 4, h => cases h; decide +kernel
  | 5, h => cases h; decide +kernel
  | 6, h => cases h; decide +kernel
  | 7, h => cases h; decide +kernel
  | 8, h => cases h; decide +kernel
  | 9, h => cases h; decide +kernel
  | n + 10, h => simp [vwCl] at h
theorem newC_ne {G : gG} {μ : aMem} {kd n a : Nat} (h : a < mN μ) : cellE G (newC μ kd n) a = cellE G μ a := cellE_congr (up1_n _ _ (Nat.ne_of_lt h)) (up1_n _ _ (Nat.ne_of_lt h)) (up1_n _ _ (Nat.ne_of_lt h)) (up1_n _ _ (Nat.ne_of_lt h))
theorem newC_S {μ : aMem} {kd n : Nat} : mS (newC μ kd n) (mN μ) = (kd, n) := up1_s _ _ _
theorem newC_F {μ : aMem} {kd n : Nat} : mF (newC μ kd n) (mN μ) = fun _ => 0 := up1_s _ _ _
theorem newC_J {μ : aMem} {kd n : Nat} : mJ (newC μ kd n) (mN μ) = fun _ => 0 := up1_s _ _ _
theorem newC_R {μ : aMem} {kd n : Nat} : mR (newC μ kd n) (mN μ) = fun _ => 999999 := up1_s _ _ _
theorem rop_nul {G : gG} : rop G 999999 = none := if_neg (Nat.lt_irrefl _)
theorem k_new (C : Cx M y p R s m args meth c G d N0 nL) {idx ci : Nat} {rr : vw_C} (hc : vwCl[ci]? = some rr) (hdg : decode (M y).2.1 pc = .ok (.new idx, 3)) (hcl : Cond.classLink (M y).1.cls idx rr.1 ∈ lw_good) (hin : Cond.instantiable rr.1 rr.2.2 ∈ lw_good) (hini : Cond.initialized rr.1 ∈ lw_good) (hlt : mN μ < 900000) (hR : mN μ + 1 ≤ N0 + R.cells) (hR2 : mL μ + rr.2.2 ≤ L0 + R.slots) (k : WK p l e R s m args below meth c Q G N0 L0 nL (pc + 3, L, .ref (mN μ) :: r, newC μ ci rr.2.2)) : WK p l e R s m args below meth c Q G N0 L0 nL (pc, L, r, μ) := fun hw H locs ls hP hS hl => by
  dsimp only at hw hP hl ⊢
  obtain ⟨hnf, h10⟩ := nfAll ci rr hc
  have hA : ∀ q : Nat, s.heap.size ≤ q → gA G q := fun q h => by show gB G ≤ q; have := C.sz; omega
  refine va_new (D := gD G) (ci := ci) (fs := flds G (newC μ ci rr.2.2) (mN μ) ci) (C := rr.1) (T := rr.2.1) (N := rr.2.2) C.x C.b C.ts (inAll ci rr hc) (tyO ci) (tyAll ci rr hc) C.own (C.ts _ hcl) (C.ts _ hin) (C.ts _ hini) C.k hP (ws_D G μ) hS hA hc (fun j hj => ?_) (by omega) (by omega) hdg (fun q H1 hP1 hD1 hS1 => ?_)
  · rw [dfAll ci rr hc j hj]
    unfold vp_V
    rw [List.getD_eq_getElem?_getD, flds_get (by rw [← hnf]; exact hj)]
    unfold fvO
    rw [newC_F, newC_R]
    split
    · rw [rop_nul]; rfl
    · rfl
  · refine w_newq C hw.2.1 hP1 hD1 (fun hq => ?_)
    subst hq
    rw [ws_push (G := G) (μ := μ) (μ' := newC μ ci rr.2.2) rfl (cell_o (by rw [newC_S]) h10) (fun a ha => newC_ne ha)] at hP1
    have k1 := k ⟨wf_newC hw.1 (by omega) hlt, by show N0 ≤ mN μ + 1; omega, by show L0 ≤ mL μ + _; omega⟩ H1 locs ls hP1 hS1 hl
    have e1 : mN (newC μ ci rr.2.2) - N0 = mN μ - N0 + 1 := by show mN μ + 1 - N0 = _; omega
    have e2 : mL (newC μ ci rr.2.2) - L0 = mL μ - L0 + rr.2.2 := by show mL μ + rr.2.2 - L0 = _; omega
    simp only [e1, e2] at k1
    rw [List.map_cons, cv_own (by omega)] at k1
    exact k1
theorem k_newarr (C : Cx M y p R s m args meth c G d N0 nL) {at' : ArrayType} {kd : Nat} {x : Int32} (hkd : (at' = .int ∧ kd = 10) ∨ (at' = .long ∧ kd = 11)) (hdg : decode (M y).2.1 pc = .ok (.newarray at', 2)) (harr : Cond.arrayClass (newarray.typeOf at') ∈ lw_good) (hlt : mN μ < 900000) (hx : ¬ x < 0) (hx2 : ix x ≤ 1000000) (hR : mN μ + 1 ≤ N0 + R.cells) (hR2 : mL μ + ix x ≤ L0 + R.slots) (k : WK p l e R s m args below meth c Q G N0 L0 nL (pc + 2, L, .ref (mN μ) :: r, newC μ kd (ix x))) : WK p l e R s m args below meth c Q G N0 L0 nL (pc, L, .int x :: r, μ) := fun hw H locs ls hP hS hl => by
  dsimp only at hw hP hl ⊢
  have hA : ∀ q : Nat, s.heap.size ≤ q → gA G q := fun q h => by show gB G ≤ q; have := C.sz; omega
  have fin : ∀ (q : Nat) (H1 : Heap) (x' : va_E), kd < 16 → x' = cellE G (newC μ kd (ix x)) (mN μ) → va_P (gD G) vwCl (wsOf G μ ++ [(q, x')]) H1 → va_D (gA G) (wsOf G μ ++ [(q, x')]) → va_S (gA G) s.heap H1 locs → W p l e R s m args below meth c H1 locs (mN μ - N0 + 1) (mL μ - L0 + ix x) Q (F0 m (pc + 2) ls (.ref q :: r.map (cv G))) := by
    intro q H1 x' h16 hx' hP1 hD1 hS1
    refine w_newq C hw.2.1 hP1 hD1 (fun hq => ?_)
    subst hq
    rw [ws_push (G := G) (μ := μ) (μ' := newC μ kd (ix x)) rfl hx'.symm (fun a ha => newC_ne ha)] at hP1
    have k1 := k ⟨wf_newC hw.1 h16 hlt, by show N0 ≤ mN μ + 1; omega, by show L0 ≤ mL μ + _; omega⟩ H1 locs ls hP1 hS1 hl
    have e1 : mN (newC μ kd (ix x)) - N0 = mN μ - N0 + 1 := by show mN μ + 1 - N0 = _; omega
    have e2 : mL (newC μ kd (ix x)) - L0 = mL μ - L0 + ix x := by show mL μ + ix x - L0 = _; omega
    simp only [e1, e2] at k1
    rw [List.map_cons, cv_own (by omega)] at k1
    exact k1
  rcases hkd with ⟨rfl, rfl⟩ | ⟨rfl, rfl⟩
  · refine va_newa (atype := .int) (ty := .int) (a0 := (ix x, .inl (fun _ => 0))) C.x C.b (C.ts _ harr) rfl C.k hP (ws_D G μ) hS hA (fun cA => rfl) hx rfl (by show ix x * 4 ≤ _; omega) (by omega) (by omega) hdg (fun q cA H1 hK1 hP1 hD1 hS1 => ?_)
    have e1 : s.vm.findClass ("[" ++ FieldType.int.toString) = some cA := (hK1.2 6 (cA, .int) rfl).2
    have e2 : s.vm.findClass ("[" ++ FieldType.int.toString) = some (gC G 10) := (C.k.2 0 _ rfl).2
    have e3 : cA = gC G 10 := Option.some.inj (e1.symm.trans e2)
    subst e3
    exact fin q H1 _ (by omega) (by rw [cell_i (by rw [newC_S]), newC_S, newC_F]) hP1 hD1 hS1
  · refine va_newa (atype := .long) (ty := .long) (a0 := (ix x, .inr (.inl (fun _ => 0)))) C.x C.b (C.ts _ harr) rfl C.k hP (ws_D G μ) hS hA (fun cA => rfl) hx rfl (by show ix x * 8 ≤ _; omega) (by omega) (by omega) hdg (fun q cA H1 hK1 hP1 hD1 hS1 => ?_)
    have e1 : s.vm.findClass ("[" ++ FieldType.long.toString) = some cA := (hK1.2 6 (cA, .long) rfl).2
    have e2 : s.vm.findClass ("[" ++ FieldType.long.toString) = some (gC G 11) := (C.k.2 1 _ rfl).2
    have e3 : cA = gC G 11 := Option.some.inj (e1.symm.trans e2)
    subst e3
    exact fin q H1 _ (by omega) (by rw [cell_j (by rw [newC_S]), newC_S, newC_J]) hP1 hD1 hS1
theorem ao_q (C : Cx M y p R s m args meth c G d N0 nL) {kd : Nat} (h1 : 12 ≤ kd) (h2 : kd < 16) {rr : vw_C} (hr : vwCl[ecl kd]? = some rr) : va_AO rr.1 s := by
  obtain ⟨a1, a2, a3, a4⟩ := C.ks.2.2.1
  rcases (show kd = 12 ∨ kd = 13 ∨ kd = 14 ∨ kd = 15 by omega) with rfl | rfl | rfl | rfl
  · cases hr; exact a1
  · cases hr; exact a2
  · cases hr; exact a3
  · cases hr; exact a4
theorem k_anew (C : Cx M y p R s m args meth c G d N0 nL) {idx kd : Nat} {x : Int32} {rr : vw_C} (h1 : 12 ≤ kd) (h2 : kd < 16) (hr : vwCl[ecl kd]? = some rr) (hdg : decode (M y).2.1 pc = .ok (.anewarray idx, 3)) (hcl : Cond.classLink (M y).1.cls idx rr.1 ∈ lw_good) (hlt : mN μ < 900000) (hx : ¬ x < 0) (hx2 : ix x ≤ 1000000) (hR : mN μ + 1 ≤ N0 + R.cells) (hR2 : mL μ + ix x ≤ L0 + R.slots) (k : WK p l e R s m args below meth c Q G N0 L0 nL (pc + 3, L, .ref (mN μ) :: r, newC μ kd (ix x))) : WK p l e R s m args below meth c Q G N0 L0 nL (pc, L, .int x :: r, μ) := fun hw H locs ls hP hS hl => by
  dsimp only at hw hP hl ⊢
  have hA : ∀ q : Nat, s.heap.size ≤ q → gA G q := fun q h => by show gB G ≤ q; have := C.sz; omega
  refine va_newq C.x C.b C.own (C.ts _ hcl) (ao_q C h1 h2 hr) C.k hP (ws_D G μ) hS hA hx rfl (by show ix x * 4 ≤ _; omega) (by omega) (by show mL μ - L0 + ix x ≤ _; omega) hdg (fun q cA H1 hK1 hP1 hD1 hS1 => ?_)
  obtain ⟨_, _, -, -, -, e1⟩ := (hK1.2 6 (cA, .object rr.1) rfl).2
  obtain ⟨rr', hrr', ht⟩ := tyK_q (G := G) h1 h2
  rw [hr] at hrr'
  cases hrr'
  obtain ⟨_, _, -, -, -, e2⟩ := (C.k.2 _ _ ht).2
  have e3 : cA = gC G kd := Option.some.inj (e1.symm.trans e2)
  subst e3
  refine w_newq C hw.2.1 hP1 hD1 (fun hq => ?_)
  subst hq
  rw [ws_push (G := G) (μ := μ) (μ' := newC μ kd (ix x)) rfl (by rw [cell_q (by rw [newC_S]; exact h1), newC_S, newC_R]; simp only [rop_nul]) (fun a ha => newC_ne ha)] at hP1
  have k1 := k ⟨wf_newC hw.1 h2 hlt, by show N0 ≤ mN μ + 1; omega, by show L0 ≤ mL μ + _; omega⟩ H1 locs ls hP1 hS1 hl
  have e1 : mN (newC μ kd (ix x)) - N0 = mN μ - N0 + 1 := by show mN μ + 1 - N0 = _; omega
  have e2 : mL (newC μ kd (ix x)) - L0 = mL μ - L0 + ix x := by show mL μ + ix x - L0 = _; omega
  simp only [e1, e2] at k1
  rw [List.map_cons, cv_own (by omega)] at k1
  exact k1
theorem k_objInit (C : Cx M y p R s m args meth c G d N0 nL) {idx o : Nat} (hdg : decode (M y).2.1 pc = .ok (.invokespecial idx, 3)) (hlk : Cond.methodLink (M y).1.cls idx Lib.objectInit ∈ lw_good) (hin : Cond.instanceMethod Lib.objectInit ∈ lw_good) (hcode : Cond.code Lib.objectInit ⟨#[0xb1]⟩ 1 none ∈ lw_good) (ho : o < 999999) (hcat : cat r ≤ 8) (k : WK p l e R s m args below meth c Q G N0 L0 nL (pc + 3, L, r, μ)) : WK p l e R s m args below meth c Q G N0 L0 nL (pc, L, .ref o :: r, μ) := fun hw H locs ls hP hS hl => by
  dsimp only at hw hP hl ⊢
  show W p l e R s m args below meth c H locs _ _ Q (F0 m pc ls (cv G (.ref o) :: r.map (cv G)))
  rw [cv_own ho]
  have hf := C.fr
  have hlo := C.lo
  refine W.objInit C.x C.b C.own (C.ts _ hlk) (C.ts _ hin) (C.ts _ hcode) rfl (by rw [C.ml]; exact hl.1) rfl hdg (by omega) (by rw [cat_map C.v]; show 2 * 0 + _ + 12 ≤ _; omega) ?_
  exact k hw H locs ls hP hS hl
theorem k_max (C : Cx M y p R s m args meth c G d N0 nL) {idx : Nat} {x z : Int32} (hdg : decode (M y).2.1 pc = .ok (.invokestatic idx, 3)) (hlk : Cond.methodLink (M y).1.cls idx Lib.Math.max.name ∈ lw_good) (h1 : Cond.static Lib.Math.max.name ∈ lw_good) (h2 : Cond.initialized "java/lang/Math" ∈ lw_good) (h3 : Cond.code Lib.Math.max.name Lib.Math.max.code 2 (some .int) ∈ lw_good) (hcat : cat r ≤ 8) (hc1 : mN μ ≤ N0 + R.cells) (hc2 : mL μ ≤ L0 + R.slots) (k : WK p l e R s m args below meth c Q G N0 L0 nL (pc + 3, L, .int (if x < z then z else x) :: r, μ)) : WK p l e R s m args below meth c Q G N0 L0 nL (pc, L, .int z :: .int x :: r, μ) := fun hw H locs ls hP hS hl => by
  dsimp only at hw hP hl ⊢
  have hf := C.fr
  have hlo := C.lo
  exact va_mmax C.x C.b (C.ml.trans hl.1.symm) C.own (C.ts _ hlk) (C.ts _ h1) (C.ts _ h2) (C.ts _ h3) (by omega) (by rw [cat_map C.v]; omega) (by show mN μ - N0 ≤ _; omega) (by show mL μ - L0 ≤ _; omega) hdg (k hw H locs ls hP hS hl)
theorem k_min (C : Cx M y p R s m args meth c G d N0 nL) {idx : Nat} {x z : Int32} (hdg : decode (M y).2.1 pc = .ok (.invokestatic idx, 3)) (hlk : Cond.methodLink (M y).1.cls idx Lib.Math.min.name ∈ lw_good) (h1 : Cond.static Lib.Math.min.name ∈ lw_good) (h2 : Cond.initialized "java/lang/Math" ∈ lw_good) (h3 : Cond.code Lib.Math.min.name Lib.Math.min.code 2 (some .int) ∈ lw_good) (hcat : cat r ≤ 8) (hc1 : mN μ ≤ N0 + R.cells) (hc2 : mL μ ≤ L0 + R.slots) (k : WK p l e R s m args below meth c Q G N0 L0 nL (pc + 3, L, .int (if z < x then z else x) :: r, μ)) : WK p l e R s m args below meth c Q G N0 L0 nL (pc, L, .int z :: .int x :: r, μ) := fun hw H locs ls hP hS hl => by
  dsimp only at hw hP hl ⊢
  have hf := C.fr
  have hlo := C.lo
  exact va_mmin C.x C.b (C.ml.trans hl.1.symm) C.own (C.ts _ hlk) (C.ts _ h1) (C.ts _ h2) (C.ts _ h3) (by omega) (by rw [cat_map C.v]; omega) (by show mN μ - N0 ≤ _; omega) (by show mL μ - L0 ≤ _; omega) hdg (k hw H locs ls hP hS hl)
theorem k_copy (C : Cx M y p R s m args meth c G d N0 nL) {idx a0 a1 : Nat} {sp dp q : Int32} (hdg : decode (M y).2.1 pc = .ok (.invokestatic idx, 3)) (hlk : Cond.methodLink (M y).1.cls idx arraycopyName ∈ lw_good) (h1 : Cond.native arraycopyName ∈ lw_good) (h2 : Cond.static arraycopyName ∈ lw_good) (h3 : Cond.initialized "java/lang/System" ∈ lw_good) (hk0 : (mS μ a0).1 = 10) (hk1 : (mS μ a1).1 = 10) (hs : ¬ sp < 0) (hd : ¬ dp < 0) (hq : ¬ q < 0) (hb0 : ix sp + ix q ≤ (mS μ a0).2) (hb1 : ix dp + ix q ≤ (mS μ a1).2) (hcat : cat r ≤ 8) (k : WK p l e R s m args below meth c Q G N0 L0 nL (pc + 3, L, r, cpyF μ a0 a1 (ix sp) (ix dp) (ix q))) : WK p l e R s m args below meth c Q G N0 L0 nL (pc, L, .int q :: .int dp :: .ref a1 :: .int sp :: .ref a0 :: r, μ) := fun hw H locs ls hP hS hl => by
  dsimp only at hw hP hl ⊢
  have ho0 : a0 < mN μ := wf_own hw.1 (by omega)
  have ho1 : a1 < mN μ := wf_own hw.1 (by omega)
  have hf := C.fr
  have hlo := C.lo
  show W p l e R s m args below meth c H locs _ _ Q (F0 m pc ls (.int q :: .int dp :: cv G (.ref a1) :: .int sp :: cv G (.ref a0) :: r.map (cv G)))
  rw [cv_own (wf_lt hw.1 ho0), cv_own (wf_lt hw.1 ho1)]
  refine va_copyi C.x C.b (C.ml.trans hl.1.symm) C.own (C.ts _ hlk) (C.ts _ h1) (C.ts _ h2) (C.ts _ h3) C.k hP (ws_D G μ) hS a0 a1 0 0 (by rw [ws_get G μ ho0, cell_i hk0]) (by rw [ws_get G μ ho1, cell_i hk1]) rfl rfl rfl hs hd hq hb0 hb1 (fun i _ => rfl) (by omega) (by rw [cat_map C.v]; have h56 : nativeFrameWords "java/lang/System" "arraycopy" 5 + 11 ≤ 56 := (by decide +kernel); omega) hdg (fun H1 locs1 hP1 _ hS1 => ?_)
  rw [ws_set (G := G) (μ := μ) (μ' := cpyF μ a0 a1 (ix sp) (ix dp) (ix q)) ho1 rfl (by
    rw [cell_i (μ := cpyF μ a0 a1 (ix sp) (ix dp) (ix q)) hk1]
    show Sum.inl (gC G 10, (mS μ a1).2, Sum.inl (up1 μ.1 a1 _ a1)) = _
    rw [up1_s]) (fun a ha => cellE_congr rfl (up1_n _ _ ha) rfl rfl)] at hP1
  exact k ⟨wf_cpyF hw.1 ho1, hw.2⟩ H1 locs1 ls hP1 hS1 hl
end SNF
