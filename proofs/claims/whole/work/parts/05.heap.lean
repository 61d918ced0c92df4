section SNE
variable {M : Nat → MI} {y d : Nat} {p : Program} {l : Launch} {e : Env} {R : Room} {s : State} {m : MethodId} {args : Array Value} {below : List Frame} {meth : Method} {c : Code} {Q : State → Prop} {G : gG} {N0 L0 nL : Nat}
variable {pc : Nat} {L r : List Value} {μ : aMem}
theorem k_ifnull (C : Cx M y p R s m args meth c G d N0 nL) {x : Nat} {off : Int} (hdg : decode (M y).2.1 pc = .ok (.ifnull off, 3)) (h : 0 ≤ (pc : Int) + off) (hx : x ≤ 999999) (k : WK p l e R s m args below meth c Q G N0 L0 nL (if x = 999999 then (tgt pc off, L, r, μ) else (pc + 3, L, r, μ))) : WK p l e R s m args below meth c Q G N0 L0 nL (pc, L, .ref x :: r, μ) := fun hw H locs ls hP hS hl => by
  dsimp only at hw hP hl
  show W p l e R s m args below meth c H locs _ _ Q (F0 m pc ls (cv G (.ref x) :: r.map (cv G)))
  by_cases e : x = 999999
  · rw [if_pos e] at k
    rw [e, cv_nul]
    exact lv_ifnullN C.x C.b hdg (tgt_eq h) (k hw H locs ls hP hS hl)
  · rw [if_neg e] at k
    rw [cv_own (by omega)]
    exact lv_ifnull C.x C.b hdg (k hw H locs ls hP hS hl)
theorem k_ifnonnull (C : Cx M y p R s m args meth c G d N0 nL) {x : Nat} {off : Int} (hdg : decode (M y).2.1 pc = .ok (.ifnonnull off, 3)) (h : 0 ≤ (pc : Int) + off) (hx : x ≤ 999999) (k : WK p l e R s m args below meth c Q G N0 L0 nL (if x = 999999 then (pc + 3, L, r, μ) else (tgt pc off, L, r, μ))) : WK p l e R s m args below meth c Q G N0 L0 nL (pc, L, .ref x :: r, μ) := fun hw H locs ls hP hS hl => by
  dsimp only at hw hP hl
  show W p l e R s m args below meth c H locs _ _ Q (F0 m pc ls (cv G (.ref x) :: r.map (cv G)))
  by_cases e : x = 999999
  · rw [if_pos e] at k
    rw [e, cv_nul]
    exact lv_ifnonnullN C.x C.b hdg (k hw H locs ls hP hS hl)
  · rw [if_neg e] at k
    rw [cv_own (by omega)]
    exact lv_ifnonnull C.x C.b hdg (tgt_eq h) (k hw H locs ls hP hS hl)
theorem k_tabOut (C : Cx M y p R s m args meth c G d N0 nL) {df lo hi : Int} {offs : Array Int} {len : Nat} {x : Int32} (hdg : decode (M y).2.1 pc = .ok (.tableswitch df lo hi offs, len)) (h : 0 ≤ (pc : Int) + df) (hx : x.toInt < lo ∨ hi < x.toInt) (k : WK p l e R s m args below meth c Q G N0 L0 nL (tgt pc df, L, r, μ)) : WK p l e R s m args below meth c Q G N0 L0 nL (pc, L, .int x :: r, μ) := fun hw H locs ls hP hS hl => lv_tableOut C.x C.b hdg hx (tgt_eq h) (k hw H locs ls hP hS hl)
theorem k_tabIn (C : Cx M y p R s m args meth c G d N0 nL) {df lo hi off : Int} {offs : Array Int} {len : Nat} {x : Int32} (hdg : decode (M y).2.1 pc = .ok (.tableswitch df lo hi offs, len)) (h : 0 ≤ (pc : Int) + off) (hx : ¬ (x.toInt < lo ∨ hi < x.toInt)) (ho : offs[(x.toInt - lo).toNat]? = some off) (k : WK p l e R s m args below meth c Q G N0 L0 nL (tgt pc off, L, r, μ)) : WK p l e R s m args below meth c Q G N0 L0 nL (pc, L, .int x :: r, μ) := fun hw H locs ls hP hS hl => lv_tableIn C.x C.b hdg (fun q => hx (Or.inl q)) (fun q => hx (Or.inr q)) ho (tgt_eq h) (k hw H locs ls hP hS hl)
theorem k_lookup (C : Cx M y p R s m args meth c G d N0 nL) {df : Int} {ps : Array (Int × Int)} {len : Nat} {x : Int32} (hdg : decode (M y).2.1 pc = .ok (.lookupswitch df ps, len)) (hp : (ps.toList.zip (ps.toList.drop 1)).all (fun (a, next) => a.1 < next.1) = true) (h : 0 ≤ (pc : Int) + Op.lookupswitch.offset ps.toList df x.toInt) (k : WK p l e R s m args below meth c Q G N0 L0 nL (tgt pc (Op.lookupswitch.offset ps.toList df x.toInt), L, r, μ)) : WK p l e R s m args below meth c Q G N0 L0 nL (pc, L, .int x :: r, μ) := fun hw H locs ls hP hS hl => lv_lookup C.x C.b hdg hp rfl (tgt_eq h) (k hw H locs ls hP hS hl)
theorem k_getfield (C : Cx M y p R s m args meth c G d N0 nL) {idx ci b o : Nat} {rr : vw_C} (hc : vwCl[ci]? = some rr) (hb : b < rr.2.2) (hlk : Cond.fieldLink (M y).1.cls idx (rr.2.1 b).1 (rr.2.1 b).2.1 (rr.2.1 b).2.2.1 ∈ lw_good) (hk : (mS μ o).1 = ci) (hdg : decode (M y).2.1 pc = .ok (.getfield idx, 3)) (k : WK p l e R s m args below meth c Q G N0 L0 nL (pc + 3, L, (if isR (tyO ci b) = true then .ref (mR μ o b) else .int (mF μ o b)) :: r, μ)) : WK p l e R s m args below meth c Q G N0 L0 nL (pc, L, .ref o :: r, μ) := fun hw H locs ls hP hS hl => by
  dsimp only at hw hP hl
  obtain ⟨hnf, h10⟩ := nfAll ci rr hc
  have ho : o < mN μ := wf_own hw.1 (by omega)
  show W p l e R s m args below meth c H locs _ _ Q (F0 m pc ls (cv G (.ref o) :: r.map (cv G)))
  rw [cv_own (wf_lt hw.1 ho)]
  have k1 := k hw H locs ls hP hS hl
  have e : cv G (if isR (tyO ci b) = true then .ref (mR μ o b) else .int (mF μ o b)) = fvO G μ o b (tyO ci b) := by
    unfold fvO
    split
    · exact cv_rop (hw.1.2.2.2.2.2 o b)
    · rfl
  rw [List.map_cons, e] at k1
  exact va_get (D := gD G) (ci := ci) (C := rr.1) (T := rr.2.1) (N := rr.2.2) C.x C.b C.ts (inAll ci rr hc) C.own C.k hP o (by rw [ws_get G μ ho, cell_o hk h10]) hc b hb (C.ts _ hlk) (fun _ h => h) (flds_get (by rw [← hnf]; exact hb)) hdg k1
theorem put_any (C : Cx M y p R s m args meth c G d N0 nL) {idx ci b o : Nat} {rr : vw_C} {v : Value} {μ' : aMem} (hc : vwCl[ci]? = some rr) (hb : b < rr.2.2) (hlk : Cond.fieldLink (M y).1.cls idx (rr.2.1 b).1 (rr.2.1 b).2.1 (rr.2.1 b).2.2.1 ∈ lw_good) (hk : (mS μ o).1 = ci) (hfin : (rr.2.1 b).2.2.2 = false ∨ ((rr.2.1 b).2.2.2 = true ∧ (M y).1.name = "<init>" ∧ (rr.2.1 b).1 = (M y).1.cls)) (hdg : decode (M y).2.1 pc = .ok (.putfield idx, 3)) (hn : narrow (tyO ci b) v = v) (hfit : fits (tyO ci b) v = true)
    (hN : mN μ' = mN μ) (hL : mL μ' = mL μ) (hwf : wfM G μ → o < mN μ → wfM G μ') (hcell : wfM G μ → cellE G μ' o = .inr (ci, (flds G μ o ci).set b v)) (hne : ∀ a, a ≠ o → cellE G μ' a = cellE G μ a) (k : WK p l e R s m args below meth c Q G N0 L0 nL (pc + 3, L, r, μ')) (hw : wfM G μ ∧ N0 ≤ mN μ ∧ L0 ≤ mL μ) (H : Heap) (locs : List Loc) (ls : Array Slot) (hP : va_P (gD G) vwCl (wsOf G μ) H) (hS : va_S (gA G) s.heap H locs) (hl : LH G ls nL L) : W p l e R s m args below meth c H locs (mN μ - N0) (mL μ - L0) Q (F0 m pc ls (v :: .ref (gB G + o) :: r.map (cv G))) := by
  obtain ⟨hnf, h10⟩ := nfAll ci rr hc
  have ho : o < mN μ := wf_own hw.1 (by omega)
  have he : (wsOf G μ)[o]? = some (gB G + o, .inr (ci, flds G μ o ci)) := by rw [ws_get G μ ho, cell_o hk h10]
  have hset := ws_set (G := G) (μ := μ) (μ' := μ') ho hN (hcell hw.1) hne
  have hlen : b < (flds G μ o ci).length := by rw [flds_len, ← hnf]; exact hb
  have hd := tyAll ci rr hc b hb
  have kk : ∀ (H1 : Heap) (locs1 : List Loc), va_P (gD G) vwCl ((wsOf G μ).set o (gB G + o, .inr (ci, (flds G μ o ci).set b v))) H1 → va_D (gA G) ((wsOf G μ).set o (gB G + o, .inr (ci, (flds G μ o ci).set b v))) → va_S (gA G) s.heap H1 locs1 → W p l e R s m args below meth c H1 locs1 (mN μ - N0) (mL μ - L0) Q (F0 m (pc + 3) ls (r.map (cv G))) := by
    intro H1 locs1 hP1 _ hS1
    rw [hset] at hP1
    have k1 := k ⟨hwf hw.1 ho, by rw [hN]; exact hw.2.1, by rw [hL]; exact hw.2.2⟩ H1 locs1 ls hP1 hS1 hl
    simp only [hN, hL] at k1
    exact k1
  rcases hfin with hf | ⟨hf, hin, hdc⟩
  · exact va_put (D := gD G) (ci := ci) (C := rr.1) (T := rr.2.1) (N := rr.2.2) C.x C.b C.ts (inAll ci rr hc) (tyO ci) (tyAll ci rr hc) (nmAll ci rr hc) C.own C.k hP (ws_D G μ) hS o he hc b hb (C.ts _ hlk) (fun _ h => h) hf hd hn hfit hlen hdg kk
  · exact va_putF (D := gD G) (ci := ci) (C := rr.1) (T := rr.2.1) (N := rr.2.2) C.x C.b C.ts (inAll ci rr hc) (tyO ci) (tyAll ci rr hc) (nmAll ci rr hc) C.own C.k hP (ws_D G μ) hS o he hc b hb (C.ts _ hlk) (fun _ h => h) hf (C.nm.trans hin) hdc hd hn hfit hlen hdg kk
theorem k_putI (C : Cx M y p R s m args meth c G d N0 nL) {idx ci b o : Nat} {rr : vw_C} {x : Int32} (hc : vwCl[ci]? = some rr) (hb : b < rr.2.2) (hlk : Cond.fieldLink (M y).1.cls idx (rr.2.1 b).1 (rr.2.1 b).2.1 (rr.2.1 b).2.2.1 ∈ lw_good) (hk : (mS μ o).1 = ci) (hfin : (rr.2.1 b).2.2.2 = false ∨ ((rr.2.1 b).2.2.2 = true ∧ (M y).1.name = "<init>" ∧ (rr.2.1 b).1 = (M y).1.cls)) (hdg : decode (M y).2.1 pc = .ok (.putfield idx, 3)) (ht : tyO ci b = .int ∨ (tyO ci b = .boolean ∧ (x = 0 ∨ x = 1))) (k : WK p l e R s m args below meth c Q G N0 L0 nL (pc + 3, L, r, setF μ o b x)) : WK p l e R s m args below meth c Q G N0 L0 nL (pc, L, .int x :: .ref o :: r, μ) := fun hw H locs ls hP hS hl => by
  dsimp only at hw hP hl
  obtain ⟨hnf, h10⟩ := nfAll ci rr hc
  have ho : o < mN μ := wf_own hw.1 (by omega)
  show W p l e R s m args below meth c H locs _ _ Q (F0 m pc ls (.int x :: cv G (.ref o) :: r.map (cv G)))
  rw [cv_own (wf_lt hw.1 ho)]
  have hR : isR (tyO ci b) = false := by rcases ht with h | ⟨h, -⟩ <;> rw [h] <;> rfl
  refine put_any C (μ := μ) (μ' := setF μ o b x) hc hb hlk hk hfin hdg ?_ ?_ rfl rfl (fun h ho => wf_setF h ho) (fun _ => ?_) (fun a ha => cellE_congr rfl (up1_n _ _ ha) rfl rfl) k hw H locs ls hP hS hl
  · rcases ht with h | ⟨h, h2⟩
    · rw [h]; rfl
    · rw [h]; rcases h2 with rfl | rfl <;> rfl
  · rcases ht with h | ⟨h, h2⟩
    · rw [h]; rfl
    · rw [h]; rcases h2 with rfl | rfl <;> rfl
  · rw [cell_o (μ := setF μ o b x) (ci := ci) hk h10]
    congr 2
    refine (flds_set (by rw [← hnf]; exact hb) ?_ (fun j hj => ?_)).symm
    · unfold fvO
      rw [hR]
      show Value.int (up1 μ.1 o _ o b) = _
      rw [up1_s, up1_s]
    · unfold fvO
      show (if _ then _ else Value.int (up1 μ.1 o _ o j)) = _
      rw [up1_s, up1_n _ _ hj]
      rfl
theorem isR_two {t : FieldType} (h : isR t = true) {v : Value} (hv : v = .null ∨ ∃ q, v = .ref q) : narrow t v = v ∧ fits t v = true := by
  cases t with
  | object n => rcases hv with rfl | ⟨q, rfl⟩ <;> exact ⟨rfl, rfl⟩
  | array n => rcases hv with rfl | ⟨q, rfl⟩ <;> exact ⟨rfl, rfl⟩
  | _ => cases h
theorem k_putR (C : Cx M y p R s m args meth c G d N0 nL) {idx ci b o x : Nat} {rr : vw_C} (hc : vwCl[ci]? = some rr) (hb : b < rr.2.2) (hlk : Cond.fieldLink (M y).1.cls idx (rr.2.1 b).1 (rr.2.1 b).2.1 (rr.2.1 b).2.2.1 ∈ lw_good) (hk : (mS μ o).1 = ci) (hfin : (rr.2.1 b).2.2.2 = false ∨ ((rr.2.1 b).2.2.2 = true ∧ (M y).1.name = "<init>" ∧ (rr.2.1 b).1 = (M y).1.cls)) (hdg : decode (M y).2.1 pc = .ok (.putfield idx, 3)) (ht : isR (tyO ci b) = true) (hx : x ≤ 999999) (k : WK p l e R s m args below meth c Q G N0 L0 nL (pc + 3, L, r, setR μ o b x)) : WK p l e R s m args below meth c Q G N0 L0 nL (pc, L, .ref x :: .ref o :: r, μ) := fun hw H locs ls hP hS hl => by
  dsimp only at hw hP hl
  obtain ⟨hnf, h10⟩ := nfAll ci rr hc
  have ho : o < mN μ := wf_own hw.1 (by omega)
  show W p l e R s m args below meth c H locs _ _ Q (F0 m pc ls (cv G (.ref x) :: cv G (.ref o) :: r.map (cv G)))
  rw [cv_own (wf_lt hw.1 ho)]
  obtain ⟨n1, n2⟩ := isR_two ht (cv_two C x)
  refine put_any C (μ := μ) (μ' := setR μ o b x) hc hb hlk hk hfin hdg n1 n2 rfl rfl (fun h _ => wf_setR h hx) (fun _ => ?_) (fun a ha => cellE_congr rfl rfl rfl (up1_n _ _ ha)) k hw H locs ls hP hS hl
  rw [cell_o (μ := setR μ o b x) (ci := ci) hk h10]
  congr 2
  refine (flds_set (by rw [← hnf]; exact hb) ?_ (fun j hj => ?_)).symm
  · unfold fvO
    rw [if_pos ht, cv_rop hx]
    show va_rf (rop G (up1 μ.2.2.1 o _ o b)) = _
    rw [up1_s, up1_s]
  · unfold fvO
    show (if _ then va_rf (rop G (up1 μ.2.2.1 o _ o j)) else _) = _
    rw [up1_s, up1_n _ _ hj]
    rfl
-- rows
theorem k_iaload (C : Cx M y p R s m args meth c G d N0 nL) {o : Nat} {j : Int32} (hdg : decode (M y).2.1 pc = .ok (.iaload, 1)) (hk : (mS μ o).1 = 10) (hj : inb j (mS μ o).2) (k : WK p l e R s m args below meth c Q G N0 L0 nL (pc + 1, L, .int (mF μ o (ix j)) :: r, μ)) : WK p l e R s m args below meth c Q G N0 L0 nL (pc, L, .int j :: .ref o :: r, μ) := fun hw H locs ls hP hS hl => by
  dsimp only at hw hP hl
  have ho : o < mN μ := wf_own hw.1 (by omega)
  show W p l e R s m args below meth c H locs _ _ Q (F0 m pc ls (.int j :: cv G (.ref o) :: r.map (cv G)))
  rw [cv_own (wf_lt hw.1 ho)]
  exact va_iald C.x C.b C.k hP o 0 (by rw [ws_get G μ ho, cell_i hk]) rfl hj hdg (k hw H locs ls hP hS hl)
theorem k_laload (C : Cx M y p R s m args meth c G d N0 nL) {o : Nat} {j : Int32} (hdg : decode (M y).2.1 pc = .ok (.laload, 1)) (hk : (mS μ o).1 = 11) (hj : inb j (mS μ o).2) (k : WK p l e R s m args below meth c Q G N0 L0 nL (pc + 1, L, .long (mJ μ o (ix j)) :: r, μ)) : WK p l e R s m args below meth c Q G N0 L0 nL (pc, L, .int j :: .ref o :: r, μ) := fun hw H locs ls hP hS hl => by
  dsimp only at hw hP hl
  have ho : o < mN μ := wf_own hw.1 (by omega)
  show W p l e R s m args below meth c H locs _ _ Q (F0 m pc ls (.int j :: cv G (.ref o) :: r.map (cv G)))
  rw [cv_own (wf_lt hw.1 ho)]
  exact va_lald C.x C.b C.k hP o 1 (by rw [ws_get G μ ho, cell_j hk]) rfl hj hdg (k hw H locs ls hP hS hl)
theorem tyK_q {G : gG} {k : Nat} (h1 : 12 ≤ k) (h2 : k < 16) : ∃ rr, vwCl[ecl k]? = some rr ∧ (tyK G)[k - 10]? = some (gC G k, .object rr.1) := by
  rcases (show k = 12 ∨ k = 13 ∨ k = 14 ∨ k = 15 by omega) with rfl | rfl | rfl | rfl
  · exact ⟨_, rfl, rfl⟩
  · exact ⟨_, rfl, rfl⟩
  · exact ⟨_, rfl, rfl⟩
  · exact ⟨_, rfl, rfl⟩
theorem k_aaload (C : Cx M y p R s m args meth c G d N0 nL) {o : Nat} {j : Int32} (hdg : decode (M y).2.1 pc = .ok (.aaload, 1)) (h1 : 12 ≤ (mS μ o).1) (h2 : (mS μ o).1 < 16) (hj : inb j (mS μ o).2) (k : WK p l e R s m args below meth c Q G N0 L0 nL (pc + 1, L, .ref (mR μ o (ix j)) :: r, μ)) : WK p l e R s m args below meth c Q G N0 L0 nL (pc, L, .int j :: .ref o :: r, μ) := fun hw H locs ls hP hS hl => by
  dsimp only at hw hP hl
  have ho : o < mN μ := wf_own hw.1 h2
  show W p l e R s m args below meth c H locs _ _ Q (F0 m pc ls (.int j :: cv G (.ref o) :: r.map (cv G)))
  rw [cv_own (wf_lt hw.1 ho)]
  have k1 := k hw H locs ls hP hS hl
  rw [List.map_cons, cv_rop (hw.1.2.2.2.2.2 o _)] at k1
  obtain ⟨rr, -, ht⟩ := tyK_q (G := G) h1 h2
  exact va_aldq C.x C.b C.k hP o _ (by rw [ws_get G μ ho, cell_q h1]) ht hj hdg k1
theorem k_iastore (C : Cx M y p R s m args meth c G d N0 nL) {o : Nat} {j x : Int32} (hdg : decode (M y).2.1 pc = .ok (.iastore, 1)) (hk : (mS μ o).1 = 10) (hj : inb j (mS μ o).2) (k : WK p l e R s m args below meth c Q G N0 L0 nL (pc + 1, L, r, setF μ o (ix j) x)) : WK p l e R s m args below meth c Q G N0 L0 nL (pc, L, .int x :: .int j :: .ref o :: r, μ) := fun hw H locs ls hP hS hl => by
  dsimp only at hw hP hl
  have ho : o < mN μ := wf_own hw.1 (by omega)
  show W p l e R s m args below meth c H locs _ _ Q (F0 m pc ls (.int x :: .int j :: cv G (.ref o) :: r.map (cv G)))
  rw [cv_own (wf_lt hw.1 ho)]
  refine va_iast C.x C.b C.k hP (ws_D G μ) hS o 0 (by rw [ws_get G μ ho, cell_i hk]) rfl hj hdg (fun H1 locs1 hP1 _ hS1 => ?_)
  rw [ws_set (G := G) (μ := μ) (μ' := setF μ o (ix j) x) ho rfl (by
    rw [cell_i (μ := setF μ o (ix j) x) hk]
    show Sum.inl (gC G 10, (mS μ o).2, Sum.inl (up1 μ.1 o _ o)) = _
    rw [up1_s]; rfl) (fun a ha => cellE_congr rfl (up1_n _ _ ha) rfl rfl)] at hP1
  exact k ⟨wf_setF hw.1 ho, hw.2⟩ H1 locs1 ls hP1 hS1 hl
theorem k_lastore (C : Cx M y p R s m args meth c G d N0 nL) {o : Nat} {j : Int32} {x : Int64} (hdg : decode (M y).2.1 pc = .ok (.lastore, 1)) (hk : (mS μ o).1 = 11) (hj : inb j (mS μ o).2) (k : WK p l e R s m args below meth c Q G N0 L0 nL (pc + 1, L, r, setJ μ o (ix j) x)) : WK p l e R s m args below meth c Q G N0 L0 nL (pc, L, .long x :: .int j :: .ref o :: r, μ) := fun hw H locs ls hP hS hl => by
  dsimp only at hw hP hl
  have ho : o < mN μ := wf_own hw.1 (by omega)
  show W p l e R s m args below meth c H locs _ _ Q (F0 m pc ls (.long x :: .int j :: cv G (.ref o) :: r.map (cv G)))
  rw [cv_own (wf_lt hw.1 ho)]
  refine va_last C.x C.b C.k hP (ws_D G μ) hS o 1 (by rw [ws_get G μ ho, cell_j hk]) rfl hj hdg (fun H1 locs1 hP1 _ hS1 => ?_)
  rw [ws_set (G := G) (μ := μ) (μ' := setJ μ o (ix j) x) ho rfl (by
    rw [cell_j (μ := setJ μ o (ix j) x) hk]
    show Sum.inl (gC G 11, (mS μ o).2, Sum.inr (Sum.inl (up1 μ.2.1 o _ o))) = _
    rw [up1_s]; rfl) (fun a ha => cellE_congr rfl rfl (up1_n _ _ ha) rfl)] at hP1
  exact k ⟨wf_setJ hw.1, hw.2⟩ H1 locs1 ls hP1 hS1 hl
theorem rop_up {G : gG} (f : Nat → Nat) (k x : Nat) : (fun j => rop G (up1 f k x j)) = va_up (fun j => rop G (f j)) k (rop G x) := by
  funext j
  by_cases h : j = k
  · subst h; rw [up1_s, va_up_self]
  · rw [up1_n _ _ h, va_up_ne _ _ h]
theorem k_aastore (C : Cx M y p R s m args meth c G d N0 nL) {o x : Nat} {j : Int32} (hdg : decode (M y).2.1 pc = .ok (.aastore, 1)) (h1 : 12 ≤ (mS μ o).1) (h2 : (mS μ o).1 < 16) (hj : inb j (mS μ o).2) (hx : x = 999999 ∨ (x < 999999 ∧ (mS μ x).1 = ecl (mS μ o).1)) (k : WK p l e R s m args below meth c Q G N0 L0 nL (pc + 1, L, r, setR μ o (ix j) x)) : WK p l e R s m args below meth c Q G N0 L0 nL (pc, L, .ref x :: .int j :: .ref o :: r, μ) := fun hw H locs ls hP hS hl => by
  dsimp only at hw hP hl
  have ho : o < mN μ := wf_own hw.1 h2
  obtain ⟨rr, hrr, ht⟩ := tyK_q (G := G) h1 h2
  have hset := ws_set (G := G) (μ := μ) (μ' := setR μ o (ix j) x) (x := .inl (gC G (mS μ o).1, (mS μ o).2, .inr (.inr (.inr (.inr (va_up (fun j => rop G (mR μ o j)) (ix j) (rop G x))))))) ho rfl (by
    rw [cell_q (μ := setR μ o (ix j) x) h1]
    show Sum.inl (gC G (mS μ o).1, (mS μ o).2, Sum.inr (Sum.inr (Sum.inr (Sum.inr (fun j' => rop G (up1 μ.2.2.1 o _ o j')))))) = _
    rw [up1_s, rop_up]) (fun a ha => cellE_congr rfl rfl rfl (up1_n _ _ ha))
  show W p l e R s m args below meth c H locs _ _ Q (F0 m pc ls (cv G (.ref x) :: .int j :: cv G (.ref o) :: r.map (cv G)))
  rw [cv_own (wf_lt hw.1 ho)]
  rcases hx with rfl | ⟨hx1, hx2⟩
  · rw [cv_nul]
    refine va_astqN C.x C.b C.k hP (ws_D G μ) hS o _ (by rw [ws_get G μ ho, cell_q h1]) ht hj hdg (fun H1 locs1 hP1 _ hS1 => ?_)
    rw [show rop G 999999 = none from if_neg (Nat.lt_irrefl _)] at hset
    rw [hset] at hP1
    exact k ⟨wf_setR hw.1 (Nat.le_refl _), hw.2⟩ H1 locs1 ls hP1 hS1 hl
  · rw [cv_own hx1]
    have h10 := (nfAll _ rr hrr).2
    have hxn : x < mN μ := wf_own hw.1 (by omega)
    refine va_astq C.x C.b C.k hP (ws_D G μ) hS o _ x (ecl (mS μ o).1) (by rw [ws_get G μ ho, cell_q h1]) ht (by rw [ws_get G μ hxn, cell_o hx2 h10]) hrr hj hdg (fun H1 locs1 hP1 _ hS1 => ?_)
    rw [show rop G x = some (gB G + x) from if_pos hx1] at hset
    rw [hset] at hP1
    exact k ⟨wf_setR hw.1 (by omega), hw.2⟩ H1 locs1 ls hP1 hS1 hl
theorem k_alen (C : Cx M y p R s m args meth c G d N0 nL) {o : Nat} (hdg : decode (M y).2.1 pc = .ok (.arraylength, 1)) (h1 : 10 ≤ (mS μ o).1) (h2 : (mS μ o).1 < 16) (k : WK p l e R s m args below meth c Q G N0 L0 nL (pc + 1, L, .int (Int32.ofNat (mS μ o).2) :: r, μ)) : WK p l e R s m args below meth c Q G N0 L0 nL (pc, L, .ref o :: r, μ) := fun hw H locs ls hP hS hl => by
  dsimp only at hw hP hl
  have ho : o < mN μ := wf_own hw.1 h2
  show W p l e R s m args below meth c H locs _ _ Q (F0 m pc ls (cv G (.ref o) :: r.map (cv G)))
  rw [cv_own (wf_lt hw.1 ho)]
  by_cases e0 : (mS μ o).1 = 10
  · have hx : (wsOf G μ)[o]? = some (gB G + o, .inl (gC G 10, ((mS μ o).2, .inl (mF μ o)))) := by rw [ws_get G μ ho, cell_i e0]
    exact va_alen C.x C.b C.k hP o 0 hx rfl rfl hdg (k hw H locs ls hP hS hl)
  · by_cases e1 : (mS μ o).1 = 11
    · have hx : (wsOf G μ)[o]? = some (gB G + o, .inl (gC G 11, ((mS μ o).2, .inr (.inl (mJ μ o))))) := by rw [ws_get G μ ho, cell_j e1]
      exact va_alen C.x C.b C.k hP o 1 hx rfl rfl hdg (k hw H locs ls hP hS hl)
    · obtain ⟨rr, -, ht⟩ := tyK_q (G := G) (k := (mS μ o).1) (by omega) h2
      have hx : (wsOf G μ)[o]? = some (gB G + o, .inl (gC G (mS μ o).1, ((mS μ o).2, .inr (.inr (.inr (.inr fun j => rop G (mR μ o j))))))) := by rw [ws_get G μ ho, cell_q (by omega)]
      exact va_alen C.x C.b C.k hP o _ hx ht rfl hdg (k hw H locs ls hP hS hl)
-- the cells that were there before
theorem k_ialoadS (C : Cx M y p R s m args meth c G d N0 nL) {o : Nat} {j : Int32} (hdg : decode (M y).2.1 pc = .ok (.iaload, 1)) (ho : o = 1000000 ∨ o = 1000001) (hj : inb j (sI o).length) (k : WK p l e R s m args below meth c Q G N0 L0 nL (pc + 1, L, .int ((sI o).getD (ix j) 0) :: r, μ)) : WK p l e R s m args below meth c Q G N0 L0 nL (pc, L, .int j :: .ref o :: r, μ) := fun hw H locs ls hP hS hl => by
  dsimp only at hw hP hl
  obtain ⟨t, he, ht⟩ := C.ks.2.2.2.2.2.2.1 o ho
  show W p l e R s m args below meth c H locs _ _ Q (F0 m pc ls (.int j :: cv G (.ref o) :: r.map (cv G)))
  rw [cv_far (by omega), he]
  exact va_ti C.x C.b ht hS hj rfl hdg (k hw H locs ls hP hS hl)
theorem k_ialoadX (C : Cx M y p R s m args meth c G d N0 nL) {o : Nat} {j : Int32} (hdg : decode (M y).2.1 pc = .ok (.iaload, 1)) (hk : (mS μ o).1 = 18) (hj : inb j (mS μ o).2) (k : WK p l e R s m args below meth c Q G N0 L0 nL (pc + 1, L, .int (mF μ o (ix j)) :: r, μ)) : WK p l e R s m args below meth c Q G N0 L0 nL (pc, L, .int j :: .ref o :: r, μ) := fun hw H locs ls hP hS hl => by
  dsimp only at hw hP hl
  have ho := wf_scr hw.1 hk
  subst ho
  obtain ⟨t, he, ht⟩ := C.ks.2.2.2.2.2.2.2.2
  show W p l e R s m args below meth c H locs _ _ Q (F0 m pc ls (.int j :: cv G (.ref 1000014) :: r.map (cv G)))
  rw [cv_far (by omega), he]
  have k1 := k hw H locs ls hP hS hl
  rw [hw.1.2.2.2.1] at hj
  rw [hw.1.2.2.2.2.1] at k1
  exact va_ti C.x C.b ht hS hj rfl hdg k1
theorem k_alenX (C : Cx M y p R s m args meth c G d N0 nL) {o : Nat} (hdg : decode (M y).2.1 pc = .ok (.arraylength, 1)) (hk : (mS μ o).1 = 18) (k : WK p l e R s m args below meth c Q G N0 L0 nL (pc + 1, L, .int (Int32.ofNat (mS μ o).2) :: r, μ)) : WK p l e R s m args below meth c Q G N0 L0 nL (pc, L, .ref o :: r, μ) := fun hw H locs ls hP hS hl => by
  dsimp only at hw hP hl
  have ho := wf_scr hw.1 hk
  subst ho
  obtain ⟨t, he, ht⟩ := C.ks.2.2.2.2.2.2.2.2
  show W p l e R s m args below meth c H locs _ _ Q (F0 m pc ls (cv G (.ref 1000014) :: r.map (cv G)))
  rw [cv_far (by omega), he]
  exact va_tlen C.x C.b ht hS (by rw [hw.1.2.2.2.1]) hdg (k hw H locs ls hP hS hl)
theorem k_alenS (C : Cx M y p R s m args meth c G d N0 nL) {o : Nat} (hdg : decode (M y).2.1 pc = .ok (.arraylength, 1)) (ho : o = 1000000 ∨ o = 1000001) (k : WK p l e R s m args below meth c Q G N0 L0 nL (pc + 1, L, .int (Int32.ofNat (sI o).length) :: r, μ)) : WK p l e R s m args below meth c Q G N0 L0 nL (pc, L, .ref o :: r, μ) := fun hw H locs ls hP hS hl => by
  dsimp only at hw hP hl
  obtain ⟨t, he, ht⟩ := C.ks.2.2.2.2.2.2.1 o ho
  show W p l e R s m args below meth c H locs _ _ Q (F0 m pc ls (cv G (.ref o) :: r.map (cv G)))
  rw [cv_far (by omega), he]
  exact va_tlen C.x C.b ht hS rfl hdg (k hw H locs ls hP hS hl)
theorem k_alenB (C : Cx M y p R s m args meth c G d N0 nL) {o : Nat} (hdg : decode (M y).2.1 pc = .ok (.arraylength, 1)) (h1 : 1000008 ≤ o) (h2 : o < 1000014) (k : WK p l e R s m args below meth c Q G N0 L0 nL (pc + 1, L, .int (Int32.ofNat (sTx.getD (o - 1000008) []).length) :: r, μ)) : WK p l e R s m args below meth c Q G N0 L0 nL (pc, L, .ref o :: r, μ) := fun hw H locs ls hP hS hl => by
  dsimp only at hw hP hl
  obtain ⟨i, rfl⟩ : ∃ i, o = 1000008 + i := ⟨o - 1000008, by omega⟩
  rw [Nat.add_sub_cancel_left] at k
  obtain ⟨q, t, -, he, -, -, -, -, ht⟩ := C.ks.2.2.2.2.2.2.2.1 i (by omega)
  show W p l e R s m args below meth c H locs _ _ Q (F0 m pc ls (cv G (.ref (1000008 + i)) :: r.map (cv G)))
  rw [cv_far (by omega), he]
  exact va_tlen C.x C.b ht hS rfl hdg (k hw H locs ls hP hS hl)
theorem k_baload (C : Cx M y p R s m args meth c G d N0 nL) {o : Nat} {j : Int32} (hdg : decode (M y).2.1 pc = .ok (.baload, 1)) (h1 : 1000008 ≤ o) (h2 : o < 1000014) (hj : inb j (sTx.getD (o - 1000008) []).length) (k : WK p l e R s m args below meth c Q G N0 L0 nL (pc + 1, L, .int ((sTx.getD (o - 1000008) []).getD (ix j) 0) :: r, μ)) : WK p l e R s m args below meth c Q G N0 L0 nL (pc, L, .int j :: .ref o :: r, μ) := fun hw H locs ls hP hS hl => by
  dsimp only at hw hP hl
  obtain ⟨i, rfl⟩ : ∃ i, o = 1000008 + i := ⟨o - 1000008, by omega⟩
  rw [Nat.add_sub_cancel_left] at k hj
  obtain ⟨q, t, -, he, -, -, -, -, ht⟩ := C.ks.2.2.2.2.2.2.2.1 i (by omega)
  show W p l e R s m args below meth c H locs _ _ Q (F0 m pc ls (.int j :: cv G (.ref (1000008 + i)) :: r.map (cv G)))
  rw [cv_far (by omega), he]
  exact va_tb C.x C.b ht hS hj rfl hdg (k hw H locs ls hP hS hl)
theorem k_getSV (C : Cx M y p R s m args meth c G d N0 nL) {idx o : Nat} (hdg : decode (M y).2.1 pc = .ok (.getfield idx, 3)) (h1 : 1000002 ≤ o) (h2 : o < 1000008) (hlk : Cond.fieldLink (M y).1.cls idx "java/lang/String" "value" "[B" ∈ lw_good) (k : WK p l e R s m args below meth c Q G N0 L0 nL (pc + 3, L, .ref (o + 6) :: r, μ)) : WK p l e R s m args below meth c Q G N0 L0 nL (pc, L, .ref o :: r, μ) := fun hw H locs ls hP hS hl => by
  dsimp only at hw hP hl
  obtain ⟨i, rfl⟩ : ∃ i, o = 1000002 + i := ⟨o - 1000002, by omega⟩
  obtain ⟨q, t, e1, e2, -, -, -, hf, -⟩ := C.ks.2.2.2.2.2.2.2.1 i (by omega)
  have k1 := k hw H locs ls hP hS hl
  rw [List.map_cons, cv_far (by omega), show 1000002 + i + 6 = 1000008 + i by omega, e2] at k1
  show W p l e R s m args below meth c H locs _ _ Q (F0 m pc ls (cv G (.ref (1000002 + i)) :: r.map (cv G)))
  rw [cv_far (by omega), e1]
  exact vk_getf C.x C.b hf hS C.own (C.ts _ hlk) (fun _ h => h) hdg k1
theorem k_getSC (C : Cx M y p R s m args meth c G d N0 nL) {idx o : Nat} (hdg : decode (M y).2.1 pc = .ok (.getfield idx, 3)) (h1 : 1000002 ≤ o) (h2 : o < 1000008) (hlk : Cond.fieldLink (M y).1.cls idx "java/lang/String" "coder" "B" ∈ lw_good) (k : WK p l e R s m args below meth c Q G N0 L0 nL (pc + 3, L, .int 0 :: r, μ)) : WK p l e R s m args below meth c Q G N0 L0 nL (pc, L, .ref o :: r, μ) := fun hw H locs ls hP hS hl => by
  dsimp only at hw hP hl
  obtain ⟨i, rfl⟩ : ∃ i, o = 1000002 + i := ⟨o - 1000002, by omega⟩
  obtain ⟨q, t, e1, e2, -, -, hf, -, -⟩ := C.ks.2.2.2.2.2.2.2.1 i (by omega)
  show W p l e R s m args below meth c H locs _ _ Q (F0 m pc ls (cv G (.ref (1000002 + i)) :: r.map (cv G)))
  rw [cv_far (by omega), e1]
  exact vk_getf C.x C.b hf hS C.own (C.ts _ hlk) (fun _ h => h) hdg (k hw H locs ls hP hS hl)
theorem k_gets (C : Cx M y p R s m args meth c G d N0 nL) {idx : Nat} {n d : String} {Cn : String} {v : Value} (hZ : va_Z Cn n d (cv G v) (gA G) s s.heap) (hlk : Cond.fieldLink (M y).1.cls idx Cn n d ∈ lw_good) (hdg : decode (M y).2.1 pc = .ok (.getstatic idx, 3)) (k : WK p l e R s m args below meth c Q G N0 L0 nL (pc + 3, L, v :: r, μ)) : WK p l e R s m args below meth c Q G N0 L0 nL (pc, L, r, μ) := fun hw H locs ls hP hS hl => va_gets C.x C.b hZ hS C.own (C.ts _ hlk) (fun _ h => h) hdg (k hw H locs ls hP hS hl)
theorem k_getsN (C : Cx M y p R s m args meth c G d N0 nL) {idx : Nat} {n : String} {v : Value} (hZ : va_Z "ElevenParts" n "[I" (cv G v) (gA G) s s.heap) (hlk : ((M y).1.cls, idx, n) ∈ nsF) (hdg : decode (M y).2.1 pc = .ok (.getstatic idx, 3)) (k : WK p l e R s m args below meth c Q G N0 L0 nL (pc + 3, L, v :: r, μ)) : WK p l e R s m args below meth c Q G N0 L0 nL (pc, L, r, μ) := fun hw H locs ls hP hS hl => va_getsN C.x C.b hZ hS C.own (va_Nw.use rfl (C.ks.2.2.2.2.1 _ hlk)) (fun _ h => h) hdg (k hw H locs ls hP hS hl)
theorem k_ldc (C : Cx M y p R s m args meth c G d N0 nL) {idx : Nat} {v : Int32} (hlk : Cond.constant (M y).1.cls idx v ∈ lw_good) (hdg : decode (M y).2.1 pc = .ok (.ldc idx, 2)) (k : WK p l e R s m args below meth c Q G N0 L0 nL (pc + 2, L, .int v :: r, μ)) : WK p l e R s m args below meth c Q G N0 L0 nL (pc, L, r, μ) := fun hw H locs ls hP hS hl => lv_ldc C.x C.b C.own (C.ts _ hlk) hdg (k hw H locs ls hP hS hl)
theorem k_ldcw (C : Cx M y p R s m args meth c G d N0 nL) {idx : Nat} {v : Int32} (hlk : Cond.constant (M y).1.cls idx v ∈ lw_good) (hdg : decode (M y).2.1 pc = .ok (.ldc_w idx, 3)) (k : WK p l e R s m args below meth c Q G N0 L0 nL (pc + 3, L, .int v :: r, μ)) : WK p l e R s m args below meth c Q G N0 L0 nL (pc, L, r, μ) := fun hw H locs ls hP hS hl => lv_ldcw C.x C.b C.own (C.ts _ hlk) hdg (k hw H locs ls hP hS hl)
theorem k_ldc2 (C : Cx M y p R s m args meth c G d N0 nL) {idx : Nat} {v : Int64} (hlk : Cond.constantLong (M y).1.cls idx v ∈ lw_good) (hdg : decode (M y).2.1 pc = .ok (.ldc2_w idx, 3)) (k : WK p l e R s m args below meth c Q G N0 L0 nL (pc + 3, L, .long v :: r, μ)) : WK p l e R s m args below meth c Q G N0 L0 nL (pc, L, r, μ) := fun hw H locs ls hP hS hl => lv_ldc2 C.x C.b C.own (C.ts _ hlk) hdg (k hw H locs ls hP hS hl)
theorem k_ldcS (C : Cx M y p R s m args meth c G d N0 nL) {i : Nat} (hi : i < 6) (ho : (M y).1.cls = RX3) (hdg : decode (M y).2.1 pc = .ok (.ldc (sIx.getD i 0), 2)) (k : WK p l e R s m args below meth c Q G N0 L0 nL (pc + 2, L, .ref (1000002 + i) :: r, μ)) : WK p l e R s m args below meth c Q G N0 L0 nL (pc, L, r, μ) := fun hw H locs ls hP hS hl => by
  dsimp only at hw hP hl
  obtain ⟨q, t, e1, -, hR, -⟩ := C.ks.2.2.2.2.2.2.2.1 i hi
  have k1 := k hw H locs ls hP hS hl
  rw [List.map_cons, cv_far (by omega), e1] at k1
  have hown := C.own
  rw [ho] at hown
  exact va_ldcS C.x C.b hown hR hdg k1
end SNE
