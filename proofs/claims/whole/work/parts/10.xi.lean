/-! THE INTERPRETER (x_): a plain machine over plain heaps. A heap: what lies at each address (tag, length, contents), the next free address, the slots used so far. Tags: 0 nothing; 1 + ci an object of class ci of vwCl; 20 + j an array of type j of xTy; 99 an int array that is only read (the script). What it computes, the Java machine computes (part 12). -/
abbrev xC : Type := Nat × Nat × (Nat → Value)
abbrev xH : Type := (Nat → xC) × Nat × Nat
abbrev xL : Type := List (Nat × Value)
abbrev xP : Type := Option (Nat × xL × List Value)
abbrev xF : Type := Nat × xL × List Value × xH
def xg : xL → Nat → Option Value
  | [], _ => none
  | q :: l, i => if q.1 = i then some q.2 else xg l i
def xs1 (i : Nat) (v : Value) (l : xL) : xL := (i, v) :: l.filter (fun q => !(q.1 == i) && !(q.1 + 1 == i && q.2.category == 2))
def xs2 (i : Nat) (v : Value) (l : xL) : xL := (i, v) :: l.filter (fun q => !(q.1 == i) && (!(q.1 == i + 1) && !(q.1 + 1 == i && q.2.category == 2)))
def xset (G : Nat → xC) (a : Nat) (c : xC) : Nat → xC := fun q => if q = a then c else G q
/-- an instruction's length (0: any) -/
def xlen : Instr → Nat
  | .iload _ | .lload _ | .aload _ | .istore _ | .lstore _ | .astore _ | .bipush _ | .ldc _ | .newarray _ => 2
  | .sipush _ | .ldc_w _ | .ldc2_w _ | .getfield _ | .putfield _ | .getstatic _ | .invokevirtual _ | .invokestatic _ | .invokespecial _ | .new _ | .anewarray _ | .checkcast _ | .instanceof _ | .iinc _ _ | .ifCond _ _ | .if_icmp _ _ | .if_acmp _ _ | .ifnull _ | .ifnonnull _ | .goto _ => 3
  | .tableswitch _ _ _ _ | .lookupswitch _ _ => 0
  | _ => 1
def xc0 : Jvm.ClassFile.Cond → Int32 → Bool
  | .eq, x => decide (x = 0)
  | .ne, x => !decide (x = 0)
  | .lt, x => decide (x < 0)
  | .ge, x => decide (0 ≤ x)
  | .gt, x => decide (0 < x)
  | .le, x => decide (x ≤ 0)
def xc2 : Jvm.ClassFile.Cond → Int32 → Int32 → Bool
  | .eq, x, y => decide (x = y)
  | .ne, x, y => !decide (x = y)
  | .lt, x, y => decide (x < y)
  | .ge, x, y => decide (y ≤ x)
  | .gt, x, y => decide (y < x)
  | .le, x, y => decide (x ≤ y)
/-- a jump's goal -/
def xj (pc : Nat) (off : Int) : Nat := ((pc : Int) + off).toNat
def xjp (pc : Nat) (off : Int) (lv : xL) (st : List Value) : xP := if 0 ≤ (pc : Int) + off then some (xj pc off, lv, st) else none
/-- a branch -/
def xbr (pc : Nat) (off : Int) (lv : xL) (st : List Value) (b : Bool) : xP := if 0 ≤ (pc : Int) + off then (if b = true then some (xj pc off, lv, st) else some (pc + 3, lv, st)) else none
def xI1 (pc : Nat) (lv : xL) (st : List Value) (f : Int32 → Int32) : xP := match st with
  | .int x :: r => some (pc + 1, lv, .int (f x) :: r)
  | _ => none
def xI2 (pc : Nat) (lv : xL) (st : List Value) (f : Int32 → Int32 → Int32) : xP := match st with
  | .int y :: .int x :: r => some (pc + 1, lv, .int (f x y) :: r)
  | _ => none
def xI2z (pc : Nat) (lv : xL) (st : List Value) (f : Int32 → Int32 → Int32) : xP := match st with
  | .int y :: .int x :: r => if y = 0 then none else some (pc + 1, lv, .int (f x y) :: r)
  | _ => none
def xJ2 (pc : Nat) (lv : xL) (st : List Value) (f : Int64 → Int64 → Int64) : xP := match st with
  | .long y :: .long x :: r => some (pc + 1, lv, .long (f x y) :: r)
  | _ => none
def xJ2z (pc : Nat) (lv : xL) (st : List Value) (f : Int64 → Int64 → Int64) : xP := match st with
  | .long y :: .long x :: r => if y = 0 then none else some (pc + 1, lv, .long (f x y) :: r)
  | _ => none
def xJI (pc : Nat) (lv : xL) (st : List Value) (f : Int64 → Int32 → Int64) : xP := match st with
  | .int y :: .long x :: r => some (pc + 1, lv, .long (f x y) :: r)
  | _ => none
def xldI (lv : xL) (i pc : Nat) (st : List Value) : xP := match xg lv i with
  | some (.int x) => some (pc, lv, .int x :: st)
  | _ => none
def xldL (lv : xL) (i pc : Nat) (st : List Value) : xP := match xg lv i with
  | some (.long x) => some (pc, lv, .long x :: st)
  | _ => none
def xldA (lv : xL) (i pc : Nat) (st : List Value) : xP := match xg lv i with
  | some (.ref x) => some (pc, lv, .ref x :: st)
  | some .null => some (pc, lv, .null :: st)
  | _ => none
def xstI (nL : Nat) (lv : xL) (i pc : Nat) (st : List Value) : xP := match st with
  | .int x :: r => if i < nL then some (pc, xs1 i (.int x) lv, r) else none
  | _ => none
def xstL (nL : Nat) (lv : xL) (i pc : Nat) (st : List Value) : xP := match st with
  | .long x :: r => if i + 1 < nL then some (pc, xs2 i (.long x) lv, r) else none
  | _ => none
def xstA (nL : Nat) (lv : xL) (i pc : Nat) (st : List Value) : xP := match st with
  | .ref x :: r => if i < nL then some (pc, xs1 i (.ref x) lv, r) else none
  | .null :: r => if i < nL then some (pc, xs1 i .null lv, r) else none
  | _ => none
/-- a read of an array whose tag is good -/
def xald (pc : Nat) (lv : xL) (st : List Value) (h : xH) (tg : Nat → Bool) : xP := match st with
  | .int i :: .ref a :: r => if tg (h.1 a).1 = true then (if i < 0 ∨ (h.1 a).2.1 ≤ i.toNatClampNeg then none else some (pc + 1, lv, (h.1 a).2.2 i.toNatClampNeg :: r)) else none
  | _ => none
def xgetf (fr : Option (Nat × Nat)) (pc : Nat) (lv : xL) (st : List Value) (h : xH) : xP := match fr, st with
  | some (ci, k), .ref a :: r => if (h.1 a).1 = ci + 1 then some (pc + 3, lv, (h.1 a).2.2 k :: r) else none
  | _, _ => none
/-- table lookups -/
def xfR (o idx : Nat) : Option (Nat × Nat) := xfT.lookup (o, idx)
def xmR (o idx : Nat) : Option Nat := xmT.lookup (o, idx)
def xnR (o idx : Nat) : Option Nat := xnT.lookup (o, idx)
def xkR (o idx : Nat) : Option Nat := xkT.lookup (o, idx)
def xaR (o idx : Nat) : Option Nat := xaT.lookup (o, idx)
def xcR (o idx : Nat) : Option Int32 := xcT.lookup (o, idx)
def xlR (o idx : Nat) : Option Int64 := xlT.lookup (o, idx)
/-- a method's code, locals, answer, number of arguments -/
def xM (y : Nat) : Option (ByteArray × Nat × Option FieldType × Nat) := xMs.lookup y
/-- what writes nothing -/
def xpure (o nL : Nat) (i : Instr) (pc len : Nat) (lv : xL) (st : List Value) (h : xH) : xP :=
  match i with
  | .aconst_null => some (pc + 1, lv, .null :: st)
  | .iconst n => some (pc + 1, lv, .int (Int32.ofInt n) :: st)
  | .bipush n => some (pc + 2, lv, .int (Int8.ofInt n).toInt32 :: st)
  | .sipush n => some (pc + 3, lv, .int (Int16.ofInt n).toInt32 :: st)
  | .lconst n => some (pc + 1, lv, .long (Int64.ofNat (n : Nat)) :: st)
  | .ldc idx => match xcR o idx with
    | some v => some (pc + 2, lv, .int v :: st)
    | none => none
  | .ldc_w idx => match xcR o idx with
    | some v => some (pc + 3, lv, .int v :: st)
    | none => none
  | .ldc2_w idx => match xlR o idx with
    | some v => some (pc + 3, lv, .long v :: st)
    | none => none
  | .iload_n k => xldI lv k (pc + 1) st
  | .iload k => xldI lv k (pc + 2) st
  | .lload_n k => xldL lv k (pc + 1) st
  | .lload k => xldL lv k (pc + 2) st
  | .aload_n k => xldA lv k (pc + 1) st
  | .aload k => xldA lv k (pc + 2) st
  | .istore_n k => xstI nL lv k (pc + 1) st
  | .istore k => xstI nL lv k (pc + 2) st
  | .lstore_n k => xstL nL lv k (pc + 1) st
  | .lstore k => xstL nL lv k (pc + 2) st
  | .astore_n k => xstA nL lv k (pc + 1) st
  | .astore k => xstA nL lv k (pc + 2) st
  | .iinc k n => match xg lv k with
    | some (.int x) => if k < nL then some (pc + 3, xs1 k (.int (x + Int32.ofInt n)) lv, st) else none
    | _ => none
  | .dup => match st with
    | v :: r => if v.category = 1 then some (pc + 1, lv, v :: v :: r) else none
    | _ => none
  | .dup_x1 => match st with
    | v :: w :: r => if v.category = 1 ∧ w.category = 1 then some (pc + 1, lv, v :: w :: v :: r) else none
    | _ => none
  | .dup2 => match st with
    | v :: w :: r => if v.category = 1 ∧ w.category = 1 then some (pc + 1, lv, v :: w :: v :: w :: r) else none
    | _ => none
  | .pop => match st with
    | v :: r => if v.category = 1 then some (pc + 1, lv, r) else none
    | _ => none
  | .iadd => xI2 pc lv st (fun x y => x + y)
  | .isub => xI2 pc lv st (fun x y => x - y)
  | .imul => xI2 pc lv st (fun x y => x * y)
  | .iand => xI2 pc lv st (fun x y => x &&& y)
  | .ior => xI2 pc lv st (fun x y => x ||| y)
  | .ixor => xI2 pc lv st (fun x y => x ^^^ y)
  | .ishl => xI2 pc lv st (fun x y => x <<< (y &&& 31))
  | .ishr => xI2 pc lv st (fun x y => x >>> (y &&& 31))
  | .iushr => xI2 pc lv st (fun x y => (x.toUInt32 >>> (y.toUInt32 &&& Int32.toUInt32 31)).toInt32)
  | .ineg => xI1 pc lv st (fun x => -x)
  | .idiv => xI2z pc lv st (fun x y => x / y)
  | .irem => xI2z pc lv st (fun x y => x - (x / y) * y)
  | .ladd => xJ2 pc lv st (fun x y => x + y)
  | .lmul => xJ2 pc lv st (fun x y => x * y)
  | .land => xJ2 pc lv st (fun x y => x &&& y)
  | .lor => xJ2 pc lv st (fun x y => x ||| y)
  | .lxor => xJ2 pc lv st (fun x y => x ^^^ y)
  | .lrem => xJ2z pc lv st (fun x y => x - (x / y) * y)
  | .lshl => xJI pc lv st (fun x y => x <<< (y.toInt64 &&& 63))
  | .lshr => xJI pc lv st (fun x y => x >>> (y.toInt64 &&& 63))
  | .lushr => xJI pc lv st (fun x y => (x.toUInt64 >>> (y.toInt64.toUInt64 &&& Int64.toUInt64 63)).toInt64)
  | .i2b => xI1 pc lv st (fun x => x.toInt8.toInt32)
  | .i2l => match st with
    | .int x :: r => some (pc + 1, lv, .long x.toInt64 :: r)
    | _ => none
  | .l2i => match st with
    | .long x :: r => some (pc + 1, lv, .int x.toInt32 :: r)
    | _ => none
  | .lcmp => match st with
    | .long y :: .long x :: r => some (pc + 1, lv, .int (lg_cmp x y) :: r)
    | _ => none
  | .goto off => xjp pc off lv st
  | .ifCond c off => match st with
    | .int x :: r => xbr pc off lv r (xc0 c x)
    | _ => none
  | .if_icmp c off => match st with
    | .int y :: .int x :: r => xbr pc off lv r (xc2 c x y)
    | _ => none
  | .ifnull off => match st with
    | .null :: r => xjp pc off lv r
    | .ref _ :: r => some (pc + 3, lv, r)
    | _ => none
  | .ifnonnull off => match st with
    | .ref _ :: r => xjp pc off lv r
    | .null :: r => some (pc + 3, lv, r)
    | _ => none
  | .if_acmp .eq off => match st with
    | .ref y :: .ref x :: r => xbr pc off lv r (decide (x = y))
    | _ => none
  | .if_acmp .ne off => match st with
    | .ref y :: .ref x :: r => xbr pc off lv r (!decide (x = y))
    | _ => none
  | .tableswitch d lo hi offs => match st with
    | .int x :: r => if x.toInt < lo ∨ hi < x.toInt then xjp pc d lv r else match offs[(x.toInt - lo).toNat]? with
      | some off => xjp pc off lv r
      | none => none
    | _ => none
  | .lookupswitch d ps => match st with
    | .int x :: r => if (ps.toList.zip (ps.toList.drop 1)).all (fun (a, next) => a.1 < next.1) = true then xjp pc (Op.lookupswitch.offset ps.toList d x.toInt) lv r else none
    | _ => none
  | .arraylength => match st with
    | .ref a :: r => if 20 ≤ (h.1 a).1 then some (pc + 1, lv, .int (Int32.ofNat (h.1 a).2.1) :: r) else none
    | _ => none
  | .iaload => xald pc lv st h (fun t => t == 20 || t == 99)
  | .laload => xald pc lv st h (fun t => t == 21)
  | .baload => xald pc lv st h (fun t => t == 22 || t == 23)
  | .aaload => xald pc lv st h (fun t => 24 ≤ t && t ≤ 27)
  | .getfield idx => xgetf (xfR o idx) pc lv st h
  | .checkcast idx => match xkR o idx, st with
    | some ci, .ref a :: r => if (h.1 a).1 = ci + 1 then some (pc + 3, lv, .ref a :: r) else none
    | _, _ => none
  | _ => none
def xas (fs : xH) (G : Nat → xC) : xH := (G, fs.2)
/-- the type of a field, whether it is final, the class's name -/
def xfty (ci k : Nat) : Option FieldType := parseFieldDescriptor ((xCl ci).2.1 k).2.2.1
/-- may a value be put into a place of this type as it is -/
def xfit : FieldType → Value → Bool
  | .int, .int _ => true
  | .long, .long _ => true
  | .boolean, .int x => x == 0 || x == 1
  | .object _, .ref _ => true
  | .object _, .null => true
  | .array _, .ref _ => true
  | .array _, .null => true
  | _, _ => false
/-- a write to an array whose tag is good -/
def xast (pc : Nat) (lv : xL) (h : xH) (v : Value) (i : Int32) (a : Nat) (r : List Value) (tg : Nat) : Option xF :=
  if (h.1 a).1 = tg then (if i < 0 ∨ (h.1 a).2.1 ≤ i.toNatClampNeg then none else some (pc + 1, lv, r, (xset h.1 a ((h.1 a).1, (h.1 a).2.1, updV (h.1 a).2.2 i.toNatClampNeg v), h.2))) else none
def xcat (st : List Value) : Nat := (st.map fun v => v.category).sum
/-- a call: the callee's number, arguments and what they stand upon -/
def xcall1 (cF : Nat → List Value → xH → Option (Option Value × xH)) (y pc : Nat) (lv : xL) (as rest : List Value) (h : xH) : Option xF :=
  if xcat rest ≤ 8 then (match cF y as h with
    | some (r, h') => some (pc + 3, lv, r.toList ++ rest, h')
    | none => none) else none
def xnargs (y : Nat) : Nat := match xM y with
  | some (_, _, _, n) => n
  | none => 0
def xnoret (y : Nat) : Bool := match xM y with
  | some (_, _, none, _) => true
  | _ => false
/-- a virtual call: the receiver is of class number y's own class -/
def xvirt (cF : Nat → List Value → xH → Option (Option Value × xH)) (y : Nat) (pc : Nat) (lv : xL) (st : List Value) (h : xH) : Option xF :=
  match st.drop (xnargs y) with
  | .ref b :: rest => if xnargs y ≤ st.length ∧ xSe.contains y = true ∧ xIn.contains y = true ∧ (xMn y).cls = (xCl ((h.1 b).1 - 1)).1 ∧ 0 < (h.1 b).1 ∧ (h.1 b).1 ≤ 17 then xcall1 cF y pc lv (.ref b :: (st.take (xnargs y)).reverse) rest h else none
  | _ => none
def xstat (cF : Nat → List Value → xH → Option (Option Value × xH)) (y : Nat) (pc : Nat) (lv : xL) (st : List Value) (h : xH) : Option xF :=
  if xnargs y ≤ st.length ∧ xSt.contains y = true then xcall1 cF y pc lv (st.take (xnargs y)).reverse (st.drop (xnargs y)) h else none
def xini (cF : Nat → List Value → xH → Option (Option Value × xH)) (y : Nat) (pc : Nat) (lv : xL) (st : List Value) (h : xH) : Option xF :=
  match st.drop (xnargs y) with
  | .ref b :: rest => if xnargs y ≤ st.length ∧ xIn.contains y = true ∧ (xMn y).name = "<init>" ∧ xnoret y = true then xcall1 cF y pc lv (.ref b :: (st.take (xnargs y)).reverse) rest h else none
  | _ => none
def xaty : ArrayType → Option Nat
  | .int => some 0
  | .long => some 1
  | .byte => some 2
  | .boolean => some 3
  | _ => none
def xmath (pc : Nat) (lv : xL) (st : List Value) (h : xH) (f : Int32 → Int32 → Int32) : Option xF := match st with
  | .int y :: .int x :: r => if xcat r ≤ 8 then some (pc + 3, lv, .int (f x y) :: r, h) else none
  | _ => none
/-- System.arraycopy between arrays of numbers of one kind -/
def xcopy (pc : Nat) (lv : xL) (st : List Value) (h : xH) : Option xF := match st with
  | .int n :: .int dp :: .ref a :: .int sp :: .ref b :: r =>
    if (h.1 a).1 = (h.1 b).1 ∧ 20 ≤ (h.1 a).1 ∧ (h.1 a).1 ≤ 23 ∧ ¬ sp < 0 ∧ ¬ dp < 0 ∧ ¬ n < 0 ∧ sp.toNatClampNeg + n.toNatClampNeg ≤ (h.1 b).2.1 ∧ dp.toNatClampNeg + n.toNatClampNeg ≤ (h.1 a).2.1 ∧ xcat r ≤ 8 then
      some (pc + 3, lv, r, (xset h.1 a ((h.1 a).1, (h.1 a).2.1, va_cpy (h.1 b).2.2 (h.1 a).2.2 sp.toNatClampNeg dp.toNatClampNeg n.toNatClampNeg), h.2)) else none
  | _ => none
/-- System.arraycopy between arrays of Objects that hold letters -/
def xlet (h : xH) (v : Value) : Bool := match v with
  | .null => true
  | .ref y => (h.1 y).1 == 9
  | _ => false
def xcopyq (pc : Nat) (lv : xL) (st : List Value) (h : xH) : Option xF := match st with
  | .int n :: .int dp :: .ref a :: .int sp :: .ref b :: r =>
    if (h.1 a).1 = 24 ∧ 0 < (h.1 a).2.1 ∧ (h.1 b).1 = 24 ∧ 0 < (h.1 b).2.1 ∧ ¬ sp < 0 ∧ ¬ dp < 0 ∧ ¬ n < 0 ∧ sp.toNatClampNeg + n.toNatClampNeg ≤ (h.1 b).2.1 ∧ dp.toNatClampNeg + n.toNatClampNeg ≤ (h.1 a).2.1 ∧ xcat r ≤ 8 ∧ (List.range n.toNatClampNeg).all (fun i => xlet h ((h.1 b).2.2 (sp.toNatClampNeg + i))) = true then
      some (pc + 3, lv, r, (xset h.1 a ((h.1 a).1, (h.1 a).2.1, va_cpy (h.1 b).2.2 (h.1 a).2.2 sp.toNatClampNeg dp.toNatClampNeg n.toNatClampNeg), h.2)) else none
  | _ => none
/-- what writes; 'ini': in a constructor -/
def xmem (cF : Nat → List Value → xH → Option (Option Value × xH)) (o : Nat) (ini : Bool) (i : Instr) (pc : Nat) (lv : xL) (st : List Value) (h : xH) : Option xF :=
  match i with
  | .putfield idx => match xfR o idx, st with
    | some (ci, k), v :: .ref a :: r => if (h.1 a).1 = ci + 1 ∧ k < (xCl ci).2.2 ∧ ((((xCl ci).2.1 k).2.2.2 = false) ∨ (ini = true ∧ ((xCl ci).2.1 k).1 = xOwn o)) then (match xfty ci k with
        | some ty => if xfit ty v = true then some (pc + 3, lv, r, (xset h.1 a ((h.1 a).1, (h.1 a).2.1, updV (h.1 a).2.2 k v), h.2)) else none
        | none => none) else none
    | none, .int x :: .ref a :: r => if (o = 3 ∧ idx = 63 ∨ o = 21 ∧ idx = 7) ∧ (h.1 a).1 = 4 then some (pc + 3, lv, r, (xset h.1 a ((h.1 a).1, (h.1 a).2.1, updV (h.1 a).2.2 0 (.int x)), h.2)) else none
    | _, _ => none
  | .getfield idx => match st with
    | .ref a :: r => if o = 3 ∧ idx = 63 ∧ (h.1 a).1 = 4 then some (pc + 3, lv, (h.1 a).2.2 0 :: r, h) else none
    | _ => none
  | .aastore => match st with
    | .ref v :: .int i :: .ref a :: r => if (h.1 a).1 = 24 ∧ (h.1 v).1 = 9 then xast pc lv h (.ref v) i a r 24 else if (h.1 a).1 = 25 ∧ (h.1 v).1 = 14 then xast pc lv h (.ref v) i a r 25 else if (h.1 a).1 = 26 ∧ (h.1 v).1 = 6 then xast pc lv h (.ref v) i a r 26 else if (h.1 a).1 = 27 ∧ (h.1 v).1 = 12 then xast pc lv h (.ref v) i a r 27 else none
    | .null :: .int i :: .ref a :: r => xast pc lv h .null i a r 24
    | _ => none
  | .anewarray idx => match xaR o idx, st with
    | some j, .int n :: r => if 4 ≤ j ∧ j ≤ 7 ∧ ¬ n < 0 ∧ n.toNatClampNeg ≤ 1000000 then some (pc + 3, lv, .ref h.2.1 :: r, (xset h.1 h.2.1 (20 + j, n.toNatClampNeg, fun _ => .null), h.2.1 + 1, h.2.2 + n.toNatClampNeg)) else none
    | _, _ => none
  | .iastore => match st with
    | .int x :: .int i :: .ref a :: r => xast pc lv h (.int x) i a r 20
    | _ => none
  | .lastore => match st with
    | .long x :: .int i :: .ref a :: r => xast pc lv h (.long x) i a r 21
    | _ => none
  | .bastore => match st with
    | .int x :: .int i :: .ref a :: r => if (h.1 a).1 = 22 then xast pc lv h (.int x.toInt8.toInt32) i a r 22 else xast pc lv h (.int (x &&& 1)) i a r 23
    | _ => none
  | .newarray t => match st with
    | .int n :: r => (match xaty t with
      | some j => if ¬ n < 0 ∧ n.toNatClampNeg ≤ 1000000 then some (pc + 2, lv, .ref h.2.1 :: r, (xset h.1 h.2.1 (20 + j, n.toNatClampNeg, fun _ => defaultValue (newarray.typeOf t)), h.2.1 + 1, h.2.2 + n.toNatClampNeg)) else none
      | none => none)
    | _ => none
  | .new idx => match xkR o idx with
    | some ci => if xIt.contains ci = true then some (pc + 3, lv, .ref h.2.1 :: st, (xset h.1 h.2.1 (ci + 1, (xCl ci).2.2, fun k => match xfty ci k with
        | some ty => defaultValue ty
        | none => .null), h.2.1 + 1, h.2.2 + (xCl ci).2.2)) else none
    | none => none
  | .invokevirtual idx => match xmR o idx with
    | some y => xvirt cF y pc lv st h
    | none => none
  | .invokestatic idx => match xmR o idx with
    | some y => if y = xMax then xmath pc lv st h (fun x y => if x < y then y else x) else if y = xMin then xmath pc lv st h (fun x y => if y < x then y else x) else xstat cF y pc lv st h
    | none => if xCp.contains (o, idx) = true then (match xcopy pc lv st h with
      | some f => some f
      | none => xcopyq pc lv st h) else none
  | .invokespecial idx => match xmR o idx with
    | some y => xini cF y pc lv st h
    | none => (match xnR o idx with
      | some y => xini cF y pc lv st h
      | none => if xOb.contains (o, idx) = true then (match st with
        | .ref _ :: r => if xcat r ≤ 8 then some (pc + 3, lv, r, h) else none
        | _ => none) else none)
  | _ => none
/-- one instruction -/
def xop (cF : Nat → List Value → xH → Option (Option Value × xH)) (o nL : Nat) (ini : Bool) (i : Instr) (pc len : Nat) (lv : xL) (st : List Value) (h : xH) : Option xF :=
  if xlen i = 0 ∨ xlen i = len then (match xpure o nL i pc len lv st h with
    | some (pc', lv', st') => some (pc', lv', st', h)
    | none => xmem cF o ini i pc lv st h) else none
def xend : Instr → Bool
  | .ireturn | .lreturn | .areturn | .return_ => true
  | _ => false
abbrev xK : Type := List (Nat × Instr × Nat)
/-- runs up to a return (it stands at it then) -/
def xrun (cF : Nat → List Value → xH → Option (Option Value × xH)) (k : xK) (o nL : Nat) (ini : Bool) : Nat → xF → Option xF
  | 0, _ => none
  | n + 1, (pc, lv, st, h) => match k.lookup pc with
    | some (i, len) => if xend i = true then some (pc, lv, st, h) else (match xop cF o nL ini i pc len lv st h with
      | some f => xrun cF k o nL ini n f
      | none => none)
    | none => none
