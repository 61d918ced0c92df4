/-! THE ABSTRACT MACHINE: cells have numbers from 0 on (the real cell is B + number), 999999 is null, from 1000000 on stand the cells that were there before (two rows of the program's constants, six texts and their bytes, the script, one reference).
A memory: ints, longs, references by cell and place; of each cell its kind (0..9 an object, 10 int[], 11 long[], 12..15 rows of references, 18 the script) and how many places; how many cells there are; how many places all have. -/
abbrev aMem : Type := (Nat → Nat → Int32) × (Nat → Nat → Int64) × (Nat → Nat → Nat) × (Nat → Nat × Nat) × Nat × Nat
abbrev aEnt : Type := Instr × Nat × Nat × Nat × Nat × Nat × Nat
abbrev aCfg : Type := Nat × List Value × List Value × aMem
abbrev aRes : Type := Option Value × aMem
abbrev aOut : Type := aCfg ⊕ aRes ⊕ (Nat × List Value × aCfg)
abbrev mF (μ : aMem) : Nat → Nat → Int32 := μ.1
abbrev mJ (μ : aMem) : Nat → Nat → Int64 := μ.2.1
abbrev mR (μ : aMem) : Nat → Nat → Nat := μ.2.2.1
abbrev mS (μ : aMem) : Nat → Nat × Nat := μ.2.2.2.1
abbrev mN (μ : aMem) : Nat := μ.2.2.2.2.1
abbrev mL (μ : aMem) : Nat := μ.2.2.2.2.2
def up1 {α : Type} (f : Nat → α) (k : Nat) (v : α) : Nat → α := fun j => if j = k then v else f j
def setF (μ : aMem) (a k : Nat) (v : Int32) : aMem := (up1 μ.1 a (up1 (μ.1 a) k v), μ.2)
def setJ (μ : aMem) (a k : Nat) (v : Int64) : aMem := (μ.1, up1 μ.2.1 a (up1 (μ.2.1 a) k v), μ.2.2)
def setR (μ : aMem) (a k : Nat) (v : Nat) : aMem := (μ.1, μ.2.1, up1 μ.2.2.1 a (up1 (μ.2.2.1 a) k v), μ.2.2.2)
def cpyF (μ : aMem) (a0 a1 sp dp n : Nat) : aMem := (up1 μ.1 a1 (va_cpy (μ.1 a0) (μ.1 a1) sp dp n), μ.2)
def newC (μ : aMem) (kd n : Nat) : aMem := (up1 μ.1 (mN μ) (fun _ => 0), up1 μ.2.1 (mN μ) (fun _ => 0), up1 μ.2.2.1 (mN μ) (fun _ => 999999), up1 (mS μ) (mN μ) (kd, n), mN μ + 1, mL μ + n)
abbrev un : Value := .retAddr 0
abbrev ix (j : Int32) : Nat := j.toNatClampNeg
abbrev inb (j : Int32) (n : Nat) : Prop := ¬ (j < 0 ∨ n ≤ j.toNatClampNeg)
def sCards : List Int32 := [1, 2, 3, 5, 8, 13, 21, 34, 55, 89]
def sAbove : List Int32 := [-1, 0, 0, 1, 2, 0]
def sI (a : Nat) : List Int32 := if a = 1000000 then sCards else sAbove
/-- the six texts: say wait fine gtf ngt ed -/
def sTx : List (List Int32) := [[115, 97, 121], [119, 97, 105, 116], [102, 105, 110, 101], [103, 116, 102], [110, 103, 116], [101, 100]]
/-- the kind of the objects that a row of that kind holds -/
def ecl (k : Nat) : Nat := if k = 12 then 1 else if k = 13 then 5 else if k = 14 then 6 else 7
def kil (L : List Value) (i : Nat) : List Value := match i with
  | 0 => L
  | j + 1 => match L[j]? with
    | some w => if w.category = 2 then L.set j un else L
    | none => L
def sto1 (L : List Value) (i : Nat) (v : Value) : List Value := (kil L i).set i v
def sto2 (L : List Value) (i : Nat) (v : Value) : List Value := ((kil L i).set (i + 1) un).set i v
def entL (as : List Value) (n : Nat) : List Value := (as.flatMap fun v => if v.category = 2 then [v, un] else [v]) ++ List.replicate (n - (as.flatMap fun v => if v.category = 2 then [v, un] else [v]).length) un
def ent (as : List Value) (n : Nat) : Option (List Value) := if (entL as n).length = n then some (entL as n) else none
abbrev nx (pc : Nat) (L st : List Value) (μ : aMem) : Option aOut := some (.inl (pc, L, st, μ))
abbrev p1i (st : List Value) (f : Int32 → List Value → Option aOut) : Option aOut := match st with
  | .int x :: r => f x r
  | _ => none
abbrev p2i (st : List Value) (f : Int32 → Int32 → List Value → Option aOut) : Option aOut := match st with
  | .int y :: .int x :: r => f x y r
  | _ => none
abbrev p2l (st : List Value) (f : Int64 → Int64 → List Value → Option aOut) : Option aOut := match st with
  | .long y :: .long x :: r => f x y r
  | _ => none
abbrev p1r (st : List Value) (f : Nat → List Value → Option aOut) : Option aOut := match st with
  | .ref a :: r => f a r
  | _ => none
abbrev pir (st : List Value) (f : Nat → Int32 → List Value → Option aOut) : Option aOut := match st with
  | .int j :: .ref a :: r => f a j r
  | _ => none
abbrev ldI (L : List Value) (i : Nat) (f : Int32 → Option aOut) : Option aOut := match L[i]? with
  | some (.int x) => f x
  | _ => none
abbrev ldJ (L : List Value) (i : Nat) (f : Int64 → Option aOut) : Option aOut := match L[i]? with
  | some (.long x) => f x
  | _ => none
abbrev ldR (L : List Value) (i : Nat) (f : Nat → Option aOut) : Option aOut := match L[i]? with
  | some (.ref x) => f x
  | _ => none
abbrev tgt (pc : Nat) (off : Int) : Nat := ((pc : Int) + off).toNat
abbrev cat (st : List Value) : Nat := (st.map fun v => v.category).sum
/-- a comparison of an int with 0, of two ints -/
def cnd (c : Jvm.ClassFile.Cond) (x y : Int32) : Bool := match c with
  | .eq => decide (x = y)
  | .ne => decide (¬ x = y)
  | .lt => decide (x < y)
  | .ge => decide (y ≤ x)
  | .gt => decide (y < x)
  | .le => decide (x ≤ y)
/-- a call of method a with b parameters; c: 0 virtual, 1 virtual over a text, 2 static, 3 a constructor, 4 static of a nest mate, 5 a nest mate's constructor, 6 Object's, 7 max, 8 min, 9 arraycopy; k: the receiver's kind -/
def acall (n a b c k pc : Nat) (L st : List Value) (μ : aMem) : Option aOut :=
  if c = 0 then
    match st.drop b with
    | .ref o :: r => if (mS μ o).1 = k ∧ o < 999999 ∧ (st.take b).length = b ∧ cat r ≤ 8 then some (.inr (.inr (a, .ref o :: (st.take b).reverse, pc + n, L, r, μ))) else none
    | _ => none
  else if c = 1 then
    match st.drop b with
    | .ref o :: r => if 1000002 ≤ o ∧ o < 1000008 ∧ (st.take b).length = b ∧ cat r ≤ 8 then some (.inr (.inr (a, .ref o :: (st.take b).reverse, pc + n, L, r, μ))) else none
    | _ => none
  else if c = 2 ∨ c = 4 then
    if (st.take b).length = b ∧ cat (st.drop b) ≤ 8 then some (.inr (.inr (a, (st.take b).reverse, pc + n, L, st.drop b, μ))) else none
  else if c = 3 ∨ c = 5 then
    match st.drop b with
    | .ref o :: r => if o < 999999 ∧ (st.take b).length = b ∧ cat r ≤ 8 then some (.inr (.inr (a, .ref o :: (st.take b).reverse, pc + n, L, r, μ))) else none
    | _ => none
  else if c = 6 then p1r st fun o r => if o < 999999 ∧ cat r ≤ 8 then nx (pc + n) L r μ else none
  else if c = 7 then p2i st fun x y r => if cat r ≤ 8 then nx (pc + n) L (.int (if x < y then y else x) :: r) μ else none
  else if c = 8 then p2i st fun x y r => if cat r ≤ 8 then nx (pc + n) L (.int (if y < x then y else x) :: r) μ else none
  else if c = 9 then
    match st with
    | .int q :: .int dp :: .ref a1 :: .int sp :: .ref a0 :: r => if (mS μ a0).1 = 10 ∧ (mS μ a1).1 = 10 ∧ ¬ sp < 0 ∧ ¬ dp < 0 ∧ ¬ q < 0 ∧ ix sp + ix q ≤ (mS μ a0).2 ∧ ix dp + ix q ≤ (mS μ a1).2 ∧ cat r ≤ 8 then nx (pc + n) L r (cpyF μ a0 a1 (ix sp) (ix dp) (ix q)) else none
    | _ => none
  else none
def astep (e : aEnt) (pc : Nat) (L st : List Value) (μ : aMem) : Option aOut :=
  match e with
  | (i, n, a, b, c, k, _) =>
  match i with
  | .iconst q => nx (pc + n) L (.int (Int32.ofInt q) :: st) μ
  | .bipush q => nx (pc + n) L (.int (Int8.ofInt q).toInt32 :: st) μ
  | .sipush q => nx (pc + n) L (.int (Int16.ofInt q).toInt32 :: st) μ
  | .lconst q => nx (pc + n) L (.long (Int64.ofNat (q : Nat)) :: st) μ
  | .aconst_null => nx (pc + n) L (.ref 999999 :: st) μ
  | .iload_n q => ldI L q fun x => nx (pc + n) L (.int x :: st) μ
  | .iload q => ldI L q fun x => nx (pc + n) L (.int x :: st) μ
  | .lload_n q => ldJ L q fun x => nx (pc + n) L (.long x :: st) μ
  | .lload q => ldJ L q fun x => nx (pc + n) L (.long x :: st) μ
  | .aload_n q => ldR L q fun x => nx (pc + n) L (.ref x :: st) μ
  | .aload q => ldR L q fun x => nx (pc + n) L (.ref x :: st) μ
  | .istore_n q => p1i st fun x r => if (q : Nat) < L.length then nx (pc + n) (sto1 L q (.int x)) r μ else none
  | .istore q => p1i st fun x r => if q < L.length then nx (pc + n) (sto1 L q (.int x)) r μ else none
  | .lstore_n q => match st with
    | .long x :: r => if (q : Nat) + 1 < L.length then nx (pc + n) (sto2 L q (.long x)) r μ else none
    | _ => none
  | .lstore q => match st with
    | .long x :: r => if q + 1 < L.length then nx (pc + n) (sto2 L q (.long x)) r μ else none
    | _ => none
  | .astore_n q => p1r st fun x r => if (q : Nat) < L.length then nx (pc + n) (sto1 L q (.ref x)) r μ else none
  | .astore q => p1r st fun x r => if q < L.length then nx (pc + n) (sto1 L q (.ref x)) r μ else none
  | .iinc q j => ldI L q fun x => if q < L.length then nx (pc + n) (sto1 L q (.int (x + Int32.ofInt j))) st μ else none
  | .iadd => p2i st fun x y r => nx (pc + n) L (.int (x + y) :: r) μ
  | .isub => p2i st fun x y r => nx (pc + n) L (.int (x - y) :: r) μ
  | .imul => p2i st fun x y r => nx (pc + n) L (.int (x * y) :: r) μ
  | .iand => p2i st fun x y r => nx (pc + n) L (.int (x &&& y) :: r) μ
  | .ior => p2i st fun x y r => nx (pc + n) L (.int (x ||| y) :: r) μ
  | .ixor => p2i st fun x y r => nx (pc + n) L (.int (x ^^^ y) :: r) μ
  | .idiv => p2i st fun x y r => if ¬ y = 0 then nx (pc + n) L (.int (x / y) :: r) μ else none
  | .irem => p2i st fun x y r => if ¬ y = 0 then nx (pc + n) L (.int (x - x / y * y) :: r) μ else none
  | .ineg => p1i st fun x r => nx (pc + n) L (.int (-x) :: r) μ
  | .ishl => p2i st fun x y r => nx (pc + n) L (.int (x <<< (y &&& 31)) :: r) μ
  | .ishr => p2i st fun x y r => nx (pc + n) L (.int (x >>> (y &&& 31)) :: r) μ
  | .iushr => p2i st fun x y r => nx (pc + n) L (.int (x.toUInt32 >>> (y.toUInt32 &&& Int32.toUInt32 31)).toInt32 :: r) μ
  | .ladd => p2l st fun x y r => nx (pc + n) L (.long (x + y) :: r) μ
  | .lmul => p2l st fun x y r => nx (pc + n) L (.long (x * y) :: r) μ
  | .ldiv => p2l st fun x y r => if ¬ y = 0 then nx (pc + n) L (.long (x / y) :: r) μ else none
  | .lrem => p2l st fun x y r => if ¬ y = 0 then nx (pc + n) L (.long (x - x / y * y) :: r) μ else none
  | .lcmp => p2l st fun x y r => nx (pc + n) L (.int (lg_cmp x y) :: r) μ
  | .i2l => p1i st fun x r => nx (pc + n) L (.long x.toInt64 :: r) μ
  | .i2s => p1i st fun x r => nx (pc + n) L (.int x.toInt16.toInt32 :: r) μ
  | .i2b => p1i st fun x r => nx (pc + n) L (.int x.toInt8.toInt32 :: r) μ
  | .i2c => p1i st fun x r => nx (pc + n) L (.int (x.toUInt32 % 65536).toInt32 :: r) μ
  | .dup => match st with
    | v :: r => if v.category = 1 then nx (pc + n) L (v :: v :: r) μ else none
    | _ => none
  | .dup2 => match st with
    | v :: w :: r => if v.category = 1 ∧ w.category = 1 then nx (pc + n) L (v :: w :: v :: w :: r) μ else none
    | _ => none
  | .pop => match st with
    | v :: r => if v.category = 1 then nx (pc + n) L r μ else none
    | _ => none
  | .ifCond q off => p1i st fun x r => some (.inl (if cnd q x 0 = true then (tgt pc off, L, r, μ) else (pc + n, L, r, μ)))
  | .if_icmp q off => p2i st fun x y r => some (.inl (if cnd q x y = true then (tgt pc off, L, r, μ) else (pc + n, L, r, μ)))
  | .ifnull off => p1r st fun x r => if x ≤ 999999 then some (.inl (if x = 999999 then (tgt pc off, L, r, μ) else (pc + n, L, r, μ))) else none
  | .ifnonnull off => p1r st fun x r => if x ≤ 999999 then some (.inl (if x = 999999 then (pc + n, L, r, μ) else (tgt pc off, L, r, μ))) else none
  | .goto off => nx (tgt pc off) L st μ
  | .tableswitch d lo hi offs => p1i st fun x r => if x.toInt < lo ∨ hi < x.toInt then nx (tgt pc d) L r μ else match offs[(x.toInt - lo).toNat]? with
    | some off => nx (tgt pc off) L r μ
    | none => none
  | .lookupswitch d ps => p1i st fun x r => nx (tgt pc (Op.lookupswitch.offset ps.toList d x.toInt)) L r μ
  | .getfield _ => p1r st fun o r => if a = 16 then (if 1000002 ≤ o ∧ o < 1000008 then (if b = 0 then nx (pc + n) L (.ref (o + 6) :: r) μ else nx (pc + n) L (.int 0 :: r) μ) else none)
      else if (mS μ o).1 = a then (if c = 1 then nx (pc + n) L (.ref (mR μ o b) :: r) μ else nx (pc + n) L (.int (mF μ o b) :: r) μ) else none
  | .putfield _ => match st with
    | .int x :: .ref o :: r => if (mS μ o).1 = a ∧ (c = 0 ∨ (c = 2 ∧ (x = 0 ∨ x = 1))) then nx (pc + n) L r (setF μ o b x) else none
    | .ref x :: .ref o :: r => if (mS μ o).1 = a ∧ c = 1 ∧ x ≤ 999999 then nx (pc + n) L r (setR μ o b x) else none
    | _ => none
  | .getstatic _ => if a = 0 then nx (pc + n) L (.ref 1000000 :: st) μ else if a = 1 then nx (pc + n) L (.ref 1000001 :: st) μ else if a = 2 then nx (pc + n) L (.int 1 :: st) μ else nx (pc + n) L (.ref 1000015 :: st) μ
  | .ldc _ => if a = 0 then nx (pc + n) L (.int (Int32.ofNat c) :: st) μ else nx (pc + n) L (.ref (1000002 + c) :: st) μ
  | .ldc_w _ => nx (pc + n) L (.int (Int32.ofNat c) :: st) μ
  | .ldc2_w _ => nx (pc + n) L (.long (Int64.ofNat c) :: st) μ
  | .iaload => pir st fun o j r => if (mS μ o).1 = 10 ∨ (mS μ o).1 = 18 then (if inb j (mS μ o).2 then nx (pc + n) L (.int (mF μ o (ix j)) :: r) μ else none)
      else if o = 1000000 ∨ o = 1000001 then (if inb j (sI o).length then nx (pc + n) L (.int ((sI o).getD (ix j) 0) :: r) μ else none) else none
  | .baload => pir st fun o j r => if 1000008 ≤ o ∧ o < 1000014 then (if inb j (sTx.getD (o - 1000008) []).length then nx (pc + n) L (.int ((sTx.getD (o - 1000008) []).getD (ix j) 0) :: r) μ else none) else none
  | .laload => pir st fun o j r => if (mS μ o).1 = 11 ∧ inb j (mS μ o).2 then nx (pc + n) L (.long (mJ μ o (ix j)) :: r) μ else none
  | .aaload => pir st fun o j r => if 12 ≤ (mS μ o).1 ∧ (mS μ o).1 < 16 ∧ inb j (mS μ o).2 then nx (pc + n) L (.ref (mR μ o (ix j)) :: r) μ else none
  | .iastore => match st with
    | .int x :: .int j :: .ref o :: r => if (mS μ o).1 = 10 ∧ inb j (mS μ o).2 then nx (pc + n) L r (setF μ o (ix j) x) else none
    | _ => none
  | .lastore => match st with
    | .long x :: .int j :: .ref o :: r => if (mS μ o).1 = 11 ∧ inb j (mS μ o).2 then nx (pc + n) L r (setJ μ o (ix j) x) else none
    | _ => none
  | .aastore => match st with
    | .ref x :: .int j :: .ref o :: r => if 12 ≤ (mS μ o).1 ∧ (mS μ o).1 < 16 ∧ inb j (mS μ o).2 ∧ (x = 999999 ∨ (x < 999999 ∧ (mS μ x).1 = ecl (mS μ o).1)) then nx (pc + n) L r (setR μ o (ix j) x) else none
    | _ => none
  | .arraylength => p1r st fun o r => if 10 ≤ (mS μ o).1 ∧ (mS μ o).1 < 16 ∨ (mS μ o).1 = 18 then nx (pc + n) L (.int (Int32.ofNat (mS μ o).2) :: r) μ
      else if o = 1000000 ∨ o = 1000001 then nx (pc + n) L (.int (Int32.ofNat (sI o).length) :: r) μ
      else if 1000008 ≤ o ∧ o < 1000014 then nx (pc + n) L (.int (Int32.ofNat (sTx.getD (o - 1000008) []).length) :: r) μ else none
  | .new _ => if mN μ < 900000 ∧ a < 10 then nx (pc + n) L (.ref (mN μ) :: st) (newC μ a b) else none
  | .newarray _ => p1i st fun x r => if mN μ < 900000 ∧ ¬ x < 0 ∧ ix x ≤ 1000000 ∧ (a = 10 ∨ a = 11) then nx (pc + n) L (.ref (mN μ) :: r) (newC μ a (ix x)) else none
  | .anewarray _ => p1i st fun x r => if mN μ < 900000 ∧ ¬ x < 0 ∧ ix x ≤ 1000000 ∧ 12 ≤ a ∧ a < 16 then nx (pc + n) L (.ref (mN μ) :: r) (newC μ a (ix x)) else none
  | .invokevirtual _ => acall n a b c k pc L st μ
  | .invokestatic _ => acall n a b c k pc L st μ
  | .invokespecial _ => acall n a b c k pc L st μ
  | .ireturn => match st with
    | [.int x] => if a = 0 ∨ (a = 1 ∧ (x = 0 ∨ x = 1)) ∨ (a = 2 ∧ (x.toUInt32 % 65536).toInt32 = x) ∨ (a = 3 ∧ x.toInt8.toInt32 = x) then some (.inr (.inl (some (.int x), μ))) else none
    | _ => none
  | .lreturn => match st with
    | [.long x] => some (.inr (.inl (some (.long x), μ)))
    | _ => none
  | .areturn => match st with
    | [.ref x] => if x ≤ 999999 then some (.inr (.inl (some (.ref x), μ))) else none
    | _ => none
  | .return_ => match st with
    | [] => some (.inr (.inl (none, μ)))
    | _ => none
  | _ => none
def run (fe : Nat → Nat → Option aEnt) (mx : Nat → Nat) : Nat → Nat → Nat → aCfg → Option aRes
  | 0, _, _, _ => none
  | f + 1, d, y, q => match fe y q.1 with
    | none => none
    | some e => match astep e q.1 q.2.1 q.2.2.1 q.2.2.2 with
      | none => none
      | some (.inl q') => run fe mx f d y q'
      | some (.inr (.inl r)) => some r
      | some (.inr (.inr (y', as, q'))) => match d with
        | 0 => none
        | d' + 1 => match ent as (mx y') with
          | none => none
          | some L0 => match run fe mx f d' y' (0, L0, [], q'.2.2.2) with
            | none => none
            | some r => run fe mx f (d' + 1) y (q'.1, q'.2.1, r.1.toList ++ q'.2.2.1, r.2)
theorem run_up (fe : Nat → Nat → Option aEnt) (mx : Nat → Nat) : ∀ (f d y : Nat) (q : aCfg) (r : aRes), run fe mx f d y q = some r → run fe mx (f + 1) d y q = some r
  | 0, d, y, q, r, h => by simp [run] at h
  | f + 1, d, y, q, r, h => by
    have ih := run_up fe mx f
    rw [run] at h ⊢
    cases hf : fe y q.1 with
    | none => rw [hf] at h; simp at h
    | some e =>
      rw [hf] at h
      simp only at h ⊢
      cases hs : astep e q.1 q.2.1 q.2.2.1 q.2.2.2 with
      | none => rw [hs] at h; simp at h
      | some o =>
        rw [hs] at h
        rcases o with q' | r' | ⟨y', as, q'⟩
        · exact ih _ _ _ _ h
        · exact h
        · cases d with
          | zero => simp at h
          | succ d' =>
            simp only at h ⊢
            cases he : ent as (mx y') with
            | none => rw [he] at h; simp at h
            | some L0 =>
              rw [he] at h
              simp only at h ⊢
              cases hc : run fe mx f d' y' (0, L0, [], q'.2.2.2) with
              | none => rw [hc] at h; simp at h
              | some r1 =>
                rw [hc] at h
                rw [ih _ _ _ _ hc]
                exact ih _ _ _ _ h
theorem run_mono {fe : Nat → Nat → Option aEnt} {mx : Nat → Nat} {f g d y : Nat} {q : aCfg} {r : aRes} (h : run fe mx f d y q = some r) (hg : f ≤ g) : run fe mx g d y q = some r := by
  induction hg with
  | refl => exact h
  | step _ ih => exact run_up _ _ _ _ _ _ _ ih
/-- what a run comes to, with as many steps as it takes -/
noncomputable def Run (fe : Nat → Nat → Option aEnt) (mx : Nat → Nat) (d y : Nat) (q : aCfg) : Option aRes :=
  @dite (Option aRes) (∃ r f, run fe mx f d y q = some r) (Classical.propDecidable _) (fun h => some h.choose) (fun _ => none)
theorem Run_some {fe : Nat → Nat → Option aEnt} {mx : Nat → Nat} {d y : Nat} {q : aCfg} {r : aRes} : Run fe mx d y q = some r ↔ ∃ f, run fe mx f d y q = some r := by
  unfold Run
  by_cases h : ∃ r f, run fe mx f d y q = some r
  · rw [dif_pos h]
    obtain ⟨f, hf⟩ := h.choose_spec
    constructor
    · intro e
      exact ⟨f, by rw [hf]; exact e⟩
    · rintro ⟨g, hg⟩
      have h1 := run_mono hf (Nat.le_max_left f g)
      have h2 := run_mono hg (Nat.le_max_right f g)
      exact h1.symm.trans h2
  · rw [dif_neg h]
    constructor
    · intro e; cases e
    · rintro ⟨g, hg⟩
      exact absurd ⟨r, g, hg⟩ h
theorem opt_ext {α : Type} {x y : Option α} (h : ∀ r, x = some r ↔ y = some r) : x = y := by
  cases x with
  | some a => exact ((h a).mp rfl).symm
  | none =>
    cases y with
    | none => rfl
    | some b => exact (h b).mpr rfl
/-- what follows a step -/
noncomputable def kon (fe : Nat → Nat → Option aEnt) (mx : Nat → Nat) (d y : Nat) (o : Option aOut) : Option aRes := match o with
  | none => none
  | some (.inl q) => Run fe mx d y q
  | some (.inr (.inl r)) => some r
  | some (.inr (.inr (y', as, q'))) => match d with
    | 0 => none
    | d' + 1 => (ent as (mx y')).bind fun L0 => (Run fe mx d' y' (0, L0, [], q'.2.2.2)).bind fun r => Run fe mx (d' + 1) y (q'.1, q'.2.1, r.1.toList ++ q'.2.2.1, r.2)
theorem Run_unf {fe : Nat → Nat → Option aEnt} {mx : Nat → Nat} {d y pc : Nat} {L st : List Value} {μ : aMem} {e : aEnt} (hf : fe y pc = some e) : Run fe mx d y (pc, L, st, μ) = kon fe mx d y (astep e pc L st μ) := by
  apply opt_ext
  intro r
  rw [Run_some]
  constructor
  · rintro ⟨f, h⟩
    cases f with
    | zero => simp [run] at h
    | succ f =>
      rw [run] at h
      simp only [hf] at h
      unfold kon
      revert h
      cases astep e pc L st μ with
      | none => intro h; simp at h
      | some o =>
        rcases o with q' | r' | ⟨y', as, q'⟩
        · intro h; exact Run_some.mpr ⟨f, h⟩
        · intro h; exact h
        · cases d with
          | zero => intro h; simp at h
          | succ d' =>
            intro h
            simp only at h ⊢
            cases he : ent as (mx y') with
            | none => rw [he] at h; simp at h
            | some L0 =>
              rw [he] at h
              simp only at h
              cases hc : run fe mx f d' y' (0, L0, [], q'.2.2.2) with
              | none => rw [hc] at h; simp at h
              | some r1 =>
                rw [hc] at h
                show (Run fe mx d' y' (0, L0, [], q'.2.2.2)).bind _ = _
                rw [Run_some.mpr ⟨f, hc⟩]
                exact Run_some.mpr ⟨f, h⟩
  · intro h
    unfold kon at h
    revert h
    cases hs : astep e pc L st μ with
    | none => intro h; simp at h
    | some o =>
      rcases o with q' | r' | ⟨y', as, q'⟩
      · intro h
        obtain ⟨f, hr⟩ := Run_some.mp h
        exact ⟨f + 1, by rw [run]; simp only [hf, hs]; exact hr⟩
      · intro h
        exact ⟨1, by rw [run]; simp only [hf, hs]; exact h⟩
      · cases d with
        | zero => intro h; simp at h
        | succ d' =>
          intro h
          simp only at h
          cases he : ent as (mx y') with
          | none => rw [he] at h; simp at h
          | some L0 =>
            rw [he] at h
            replace h : (Run fe mx d' y' (0, L0, [], q'.2.2.2)).bind _ = some r := h
            cases hc : Run fe mx d' y' (0, L0, [], q'.2.2.2) with
            | none => rw [hc] at h; simp at h
            | some r1 =>
              rw [hc] at h
              obtain ⟨f1, h1⟩ := Run_some.mp hc
              obtain ⟨f2, h2⟩ := Run_some.mp h
              refine ⟨max f1 f2 + 1, ?_⟩
              rw [run]
              simp only [hf, hs, he]
              rw [run_mono h1 (Nat.le_max_left f1 f2)]
              exact run_mono h2 (Nat.le_max_right f1 f2)
theorem kon_ite {fe : Nat → Nat → Option aEnt} {mx : Nat → Nat} {d y : Nat} {c : Prop} {hc : Decidable c} {a b : Option aOut} : kon fe mx d y (@ite _ c hc a b) = @ite _ c hc (kon fe mx d y a) (kon fe mx d y b) := by
  by_cases h : c
  · rw [if_pos h, if_pos h]
  · rw [if_neg h, if_neg h]
