/-! A SMALL MACHINE OF OUR OWN over lists, and (further below) that the Java machine follows it. Names begin with z. -/
abbrev zV : Type := List Int32 ⊕ List Int64 ⊕ List (Option Nat) ⊕ List Value
/-- a cell: number of its class (an object), or number of its array type (0 int, 1 long, 2 boolean, 3 references) -/
abbrev zE : Type := Nat × zV
abbrev zH : Type := List zE
abbrev zL : Type := List (Nat × Value)
/-- the tables: fields (own class, index), constants and statics, classes to be made, fields of things outside, arrays outside (of bytes?), types of fields, which are final -/
abbrev zX : Type := (Nat → Nat → Option (Nat × Nat)) × (Nat → Nat → Option Value) × (Nat → Nat → Option (Nat × List Value)) × (Nat → Nat → Nat → Option Value) × (Nat → Option (Bool × List Int32)) × (Nat → Nat → FieldType) × (Nat → Nat → Bool) × (Nat → Nat → Bool) × Nat × (Nat → Nat → Option Value) × (Nat → Option Nat)
def zfld (X : zX) : Nat → Nat → Option (Nat × Nat) := X.1
def zkon (X : zX) : Nat → Nat → Option Value := X.2.1
def znew (X : zX) : Nat → Nat → Option (Nat × List Value) := X.2.2.1
def zxget (X : zX) : Nat → Nat → Nat → Option Value := X.2.2.2.1
def zxarr (X : zX) : Nat → Option (Bool × List Int32) := X.2.2.2.2.1
def zty (X : zX) : Nat → Nat → FieldType := X.2.2.2.2.2.1
def zfin (X : zX) : Nat → Nat → Bool := X.2.2.2.2.2.2.1
/-- (own class, index): is it the class of which rows of references are made; is it Object.<init> -/
def zisP (X : zX) : Nat → Nat → Bool := X.2.2.2.2.2.2.2.1
/-- the number of the class whose objects lie in rows of references -/
def zpc (X : zX) : Nat := X.2.2.2.2.2.2.2.2.1
/-- statics; the class of a thing outside, by its number among the methods' classes -/
def zsta (X : zX) : Nat → Nat → Option Value := X.2.2.2.2.2.2.2.2.2.1
def zxcl (X : zX) : Nat → Option Nat := X.2.2.2.2.2.2.2.2.2.2
def zobj (fs : List Value) : zV := .inr (.inr (.inr fs))
def zget (ls : zL) (i : Nat) : Option Value := (ls.find? (fun q => q.1 == i)).map (fun q => q.2)
def zset1 (ls : zL) (i : Nat) (v : Value) : zL := (i, v) :: ls.filter (fun q => !(q.1 == i) && !(q.1 + 1 == i && q.2.category == 2))
def zset2 (ls : zL) (i : Nat) (v : Value) : zL := (i, v) :: ls.filter (fun q => !(q.1 == i) && (!(q.1 == i + 1) && !(q.1 + 1 == i && q.2.category == 2)))
/-- an address for a value that has none: types of values don't look at it -/
def zdry : Value → Value
  | .retAddr _ => .ref 0
  | v => v
def zidx (i : Int32) (n : Nat) : Bool := !(decide (i < 0)) && decide (i.toNatClampNeg < n)
def zputs (X : zX) (ini : Bool) (c ci k : Nat) (v : Value) : Bool :=
  (!(zfin X ci k) || (ini && ci == c)) && decide (narrow (zty X ci k) (zdry v) = zdry v) && fits (zty X ci k) (zdry v)
def zicmp : Jvm.ClassFile.Cond → Int32 → Int32 → Bool
  | .eq, x, y => decide (x = y)
  | .ne, x, y => !decide (x = y)
  | .lt, x, y => decide (x < y)
  | .ge, x, y => decide (y ≤ x)
  | .gt, x, y => decide (y < x)
  | .le, x, y => decide (x ≤ y)
def zjump (pc : Nat) (off : Int) (ls : zL) (st : List Value) (h : zH) : Option (Nat × zL × List Value × zH) :=
  if 0 ≤ (pc : Int) + off then some (((pc : Int) + off).toNat, ls, st, h) else none
def zbr (b : Bool) (pc : Nat) (off : Int) (ls : zL) (st : List Value) (h : zH) : Option (Nat × zL × List Value × zH) :=
  if 0 ≤ (pc : Int) + off then (if b = true then some (((pc : Int) + off).toNat, ls, st, h) else some (pc + 3, ls, st, h)) else none
def zrv : Option Nat → Value
  | none => .null
  | some k => .ref k
def zlen : Instr → Nat
  | .bipush _ | .iload _ | .aload _ | .lload _ | .istore _ | .astore _ | .lstore _ | .newarray _ | .ldc _ => 2
  | .sipush _ | .iinc _ _ | .goto _ | .if_icmp _ _ | .ifCond _ _ | .getfield _ | .putfield _ | .getstatic _ | .invokevirtual _ | .invokestatic _ | .invokespecial _ | .new _ | .anewarray _ | .ldc_w _ | .ldc2_w _ => 3
  | _ => 1
def zstI (X : zX) (i : Instr) (pc : Nat) (ls : zL) (st : List Value) (h : zH) : Option (Nat × zL × List Value × zH) :=
  match i with
  | .iadd => match st with
    | .int y :: .int x :: r => some (pc + 1, ls, .int (x + y) :: r, h)
    | _ => none
  | .isub => match st with
    | .int y :: .int x :: r => some (pc + 1, ls, .int (x - y) :: r, h)
    | _ => none
  | .imul => match st with
    | .int y :: .int x :: r => some (pc + 1, ls, .int (x * y) :: r, h)
    | _ => none
  | .iand => match st with
    | .int y :: .int x :: r => some (pc + 1, ls, .int (x &&& y) :: r, h)
    | _ => none
  | .ior => match st with
    | .int y :: .int x :: r => some (pc + 1, ls, .int (x ||| y) :: r, h)
    | _ => none
  | .ixor => match st with
    | .int y :: .int x :: r => some (pc + 1, ls, .int (x ^^^ y) :: r, h)
    | _ => none
  | .idiv => match st with
    | .int y :: .int x :: r => if y = 0 then none else some (pc + 1, ls, .int (x / y) :: r, h)
    | _ => none
  | .irem => match st with
    | .int y :: .int x :: r => if y = 0 then none else some (pc + 1, ls, .int (x - x / y * y) :: r, h)
    | _ => none
  | .ineg => match st with
    | .int x :: r => some (pc + 1, ls, .int (-x) :: r, h)
    | _ => none
  | .ishl => match st with
    | .int y :: .int x :: r => some (pc + 1, ls, .int (x <<< (y &&& 31)) :: r, h)
    | _ => none
  | .ishr => match st with
    | .int y :: .int x :: r => some (pc + 1, ls, .int (x >>> (y &&& 31)) :: r, h)
    | _ => none
  | .iushr => match st with
    | .int y :: .int x :: r => some (pc + 1, ls, .int ((x.toUInt32 >>> (y.toUInt32 &&& Int32.toUInt32 31)).toInt32) :: r, h)
    | _ => none
  | .ladd => match st with
    | .long y :: .long x :: r => some (pc + 1, ls, .long (x + y) :: r, h)
    | _ => none
  | .lsub => match st with
    | .long y :: .long x :: r => some (pc + 1, ls, .long (x - y) :: r, h)
    | _ => none
  | .lmul => match st with
    | .long y :: .long x :: r => some (pc + 1, ls, .long (x * y) :: r, h)
    | _ => none
  | .land => match st with
    | .long y :: .long x :: r => some (pc + 1, ls, .long (x &&& y) :: r, h)
    | _ => none
  | .lor => match st with
    | .long y :: .long x :: r => some (pc + 1, ls, .long (x ||| y) :: r, h)
    | _ => none
  | .lxor => match st with
    | .long y :: .long x :: r => some (pc + 1, ls, .long (x ^^^ y) :: r, h)
    | _ => none
  | .ldiv => match st with
    | .long y :: .long x :: r => if y = 0 then none else some (pc + 1, ls, .long (x / y) :: r, h)
    | _ => none
  | .lrem => match st with
    | .long y :: .long x :: r => if y = 0 then none else some (pc + 1, ls, .long (x - x / y * y) :: r, h)
    | _ => none
  | .lneg => match st with
    | .long x :: r => some (pc + 1, ls, .long (-x) :: r, h)
    | _ => none
  | .lshl => match st with
    | .int y :: .long x :: r => some (pc + 1, ls, .long (x <<< (y.toInt64 &&& 63)) :: r, h)
    | _ => none
  | .lshr => match st with
    | .int y :: .long x :: r => some (pc + 1, ls, .long (x >>> (y.toInt64 &&& 63)) :: r, h)
    | _ => none
  | .lushr => match st with
    | .int y :: .long x :: r => some (pc + 1, ls, .long ((x.toUInt64 >>> (y.toInt64.toUInt64 &&& Int64.toUInt64 63)).toInt64) :: r, h)
    | _ => none
  | .lcmp => match st with
    | .long y :: .long x :: r => some (pc + 1, ls, .int (lg_cmp x y) :: r, h)
    | _ => none
  | .i2l => match st with
    | .int x :: r => some (pc + 1, ls, .long x.toInt64 :: r, h)
    | _ => none
  | .l2i => match st with
    | .long x :: r => some (pc + 1, ls, .int x.toInt32 :: r, h)
    | _ => none
  | .i2c => match st with
    | .int x :: r => some (pc + 1, ls, .int (x.toUInt32 % 65536).toInt32 :: r, h)
    | _ => none
  | .dup => match st with
    | .int x :: r => some (pc + 1, ls, .int x :: .int x :: r, h)
    | .ref x :: r => some (pc + 1, ls, .ref x :: .ref x :: r, h)
    | _ => none
  | .dup2 => match st with
    | .int x :: .ref a :: r => some (pc + 1, ls, .int x :: .ref a :: .int x :: .ref a :: r, h)
    | _ => none
  | .pop => match st with
    | .int _ :: r => some (pc + 1, ls, r, h)
    | .ref _ :: r => some (pc + 1, ls, r, h)
    | _ => none
  | .ifCond c off => match st with
    | .int x :: r => zbr (zicmp c x 0) pc off ls r h
    | _ => none
  | .if_icmp c off => match st with
    | .int y :: .int x :: r => zbr (zicmp c x y) pc off ls r h
    | _ => none
  | .goto off => zjump pc off ls st h
  | .tableswitch d lo hi offs => match st with
    | .int x :: r => if x.toInt < lo ∨ hi < x.toInt then zjump pc d ls r h else
        match offs[(x.toInt - lo).toNat]? with
        | some off => zjump pc off ls r h
        | none => none
    | _ => none
  | .lookupswitch d ps => match st with
    | .int x :: r => if (ps.toList.zip (ps.toList.drop 1)).all (fun (a, next) => a.1 < next.1) = true then zjump pc (Op.lookupswitch.offset ps.toList d x.toInt) ls r h else none
    | _ => none
  | _ => none
def zstL (nL : Nat) (i : Instr) (pc : Nat) (ls : zL) (st : List Value) (h : zH) : Option (Nat × zL × List Value × zH) :=
  match i with
  | .iconst n => some (pc + 1, ls, .int (Int32.ofInt n) :: st, h)
  | .bipush n => some (pc + 2, ls, .int (Int8.ofInt n).toInt32 :: st, h)
  | .sipush n => some (pc + 3, ls, .int (Int16.ofInt n).toInt32 :: st, h)
  | .lconst n => some (pc + 1, ls, .long (Int64.ofNat (n : Nat)) :: st, h)
  | .iload_n k => match zget ls k with
    | some (.int x) => some (pc + 1, ls, .int x :: st, h)
    | _ => none
  | .iload k => match zget ls k with
    | some (.int x) => some (pc + 2, ls, .int x :: st, h)
    | _ => none
  | .lload_n k => match zget ls k with
    | some (.long x) => some (pc + 1, ls, .long x :: st, h)
    | _ => none
  | .lload k => match zget ls k with
    | some (.long x) => some (pc + 2, ls, .long x :: st, h)
    | _ => none
  | .aload_n k => match zget ls k with
    | some (.ref x) => some (pc + 1, ls, .ref x :: st, h)
    | some (.retAddr x) => some (pc + 1, ls, .retAddr x :: st, h)
    | some .null => some (pc + 1, ls, .null :: st, h)
    | _ => none
  | .aload k => match zget ls k with
    | some (.ref x) => some (pc + 2, ls, .ref x :: st, h)
    | some (.retAddr x) => some (pc + 2, ls, .retAddr x :: st, h)
    | some .null => some (pc + 2, ls, .null :: st, h)
    | _ => none
  | .istore_n k => match st with
    | .int x :: r => if (k : Nat) < nL then some (pc + 1, zset1 ls k (.int x), r, h) else none
    | _ => none
  | .istore k => match st with
    | .int x :: r => if k < nL then some (pc + 2, zset1 ls k (.int x), r, h) else none
    | _ => none
  | .lstore_n k => match st with
    | .long x :: r => if (k : Nat) + 1 < nL then some (pc + 1, zset2 ls k (.long x), r, h) else none
    | _ => none
  | .lstore k => match st with
    | .long x :: r => if k + 1 < nL then some (pc + 2, zset2 ls k (.long x), r, h) else none
    | _ => none
  | .astore_n k => match st with
    | .ref x :: r => if (k : Nat) < nL then some (pc + 1, zset1 ls k (.ref x), r, h) else none
    | _ => none
  | .astore k => match st with
    | .ref x :: r => if k < nL then some (pc + 2, zset1 ls k (.ref x), r, h) else none
    | _ => none
  | .iinc k n => match zget ls k with
    | some (.int x) => if k < nL then some (pc + 3, zset1 ls k (.int (x + Int32.ofInt n)), st, h) else none
    | _ => none
  | _ => none
def zstH (X : zX) (ini : Bool) (c : Nat) (i : Instr) (pc : Nat) (ls : zL) (st : List Value) (h : zH) : Option (Nat × zL × List Value × zH) :=
  match i with
  | .getfield j => match st with
    | .ref a :: r => match zfld X c j, h[a]? with
      | some (ci, k), some (ci', .inr (.inr (.inr fs))) => match fs[k]? with
        | some v => if ci' = ci then some (pc + 3, ls, v :: r, h) else none
        | none => none
      | _, _ => none
    | .retAddr e :: r => match zxget X c j e with
      | some v => some (pc + 3, ls, v :: r, h)
      | none => none
    | _ => none
  | .putfield j => match st with
    | v :: .ref a :: r => match zfld X c j, h[a]? with
      | some (ci, k), some (ci', .inr (.inr (.inr fs))) => if ci' = ci ∧ k < fs.length ∧ zputs X ini c ci k v = true then some (pc + 3, ls, r, h.set a (ci, .inr (.inr (.inr (fs.set k v))))) else none
      | _, _ => none
    | _ => none
  | .getstatic j => match zsta X c j with
    | some v => some (pc + 3, ls, v :: st, h)
    | none => none
  | .ldc j => match zkon X c j with
    | some (.int x) => some (pc + 2, ls, .int x :: st, h)
    | some (.retAddr x) => some (pc + 2, ls, .retAddr x :: st, h)
    | _ => none
  | .ldc_w j => match zkon X c j with
    | some (.int x) => some (pc + 3, ls, .int x :: st, h)
    | _ => none
  | .ldc2_w j => match zkon X c j with
    | some (.long x) => some (pc + 3, ls, .long x :: st, h)
    | _ => none
  | .iaload => match st with
    | .int i :: .ref a :: r => match h[a]? with
      | some (0, .inl l) => if zidx i l.length = true then some (pc + 1, ls, .int (l.getD i.toNatClampNeg 0) :: r, h) else none
      | _ => none
    | .int i :: .retAddr e :: r => match zxarr X e with
      | some (false, l) => if zidx i l.length = true then some (pc + 1, ls, .int (l.getD i.toNatClampNeg 0) :: r, h) else none
      | _ => none
    | _ => none
  | .baload => match st with
    | .int i :: .ref a :: r => match h[a]? with
      | some (2, .inl l) => if zidx i l.length = true then some (pc + 1, ls, .int (l.getD i.toNatClampNeg 0) :: r, h) else none
      | _ => none
    | .int i :: .retAddr e :: r => match zxarr X e with
      | some (true, l) => if zidx i l.length = true then some (pc + 1, ls, .int (l.getD i.toNatClampNeg 0) :: r, h) else none
      | _ => none
    | _ => none
  | .laload => match st with
    | .int i :: .ref a :: r => match h[a]? with
      | some (1, .inr (.inl l)) => if zidx i l.length = true then some (pc + 1, ls, .long (l.getD i.toNatClampNeg 0) :: r, h) else none
      | _ => none
    | _ => none
  | .aaload => match st with
    | .int i :: .ref a :: r => match h[a]? with
      | some (3, .inr (.inr (.inl l))) => if zidx i l.length = true then some (pc + 1, ls, zrv (l.getD i.toNatClampNeg none) :: r, h) else none
      | _ => none
    | _ => none
  | .iastore => match st with
    | .int x :: .int i :: .ref a :: r => match h[a]? with
      | some (0, .inl l) => if zidx i l.length = true then some (pc + 1, ls, r, h.set a (0, .inl (l.set i.toNatClampNeg x))) else none
      | _ => none
    | _ => none
  | .bastore => match st with
    | .int x :: .int i :: .ref a :: r => match h[a]? with
      | some (2, .inl l) => if zidx i l.length = true then some (pc + 1, ls, r, h.set a (2, .inl (l.set i.toNatClampNeg (x &&& 1)))) else none
      | _ => none
    | _ => none
  | .lastore => match st with
    | .long x :: .int i :: .ref a :: r => match h[a]? with
      | some (1, .inr (.inl l)) => if zidx i l.length = true then some (pc + 1, ls, r, h.set a (1, .inr (.inl (l.set i.toNatClampNeg x)))) else none
      | _ => none
    | _ => none
  | .aastore => match st with
    | .ref v :: .int i :: .ref a :: r => match h[a]?, h[v]? with
      | some (3, .inr (.inr (.inl l))), some (ci, .inr (.inr (.inr _))) => if zidx i l.length = true ∧ ci = zpc X then some (pc + 1, ls, r, h.set a (3, .inr (.inr (.inl (l.set i.toNatClampNeg (some v)))))) else none
      | _, _ => none
    | _ => none
  | .arraylength => match st with
    | .ref a :: r => match h[a]? with
      | some (0, .inl l) => some (pc + 1, ls, .int (Int32.ofNat l.length) :: r, h)
      | some (2, .inl l) => some (pc + 1, ls, .int (Int32.ofNat l.length) :: r, h)
      | some (1, .inr (.inl l)) => some (pc + 1, ls, .int (Int32.ofNat l.length) :: r, h)
      | some (3, .inr (.inr (.inl l))) => some (pc + 1, ls, .int (Int32.ofNat l.length) :: r, h)
      | _ => none
    | .retAddr e :: r => match zxarr X e with
      | some (_, l) => some (pc + 1, ls, .int (Int32.ofNat l.length) :: r, h)
      | _ => none
    | _ => none
  | .new j => match znew X c j with
    | some (ci, fs) => some (pc + 3, ls, .ref h.length :: st, h ++ [(ci, .inr (.inr (.inr fs)))])
    | none => none
  | .newarray .int => match st with
    | .int n :: r => if n < 0 ∨ 1000000 < n.toNatClampNeg then none else some (pc + 2, ls, .ref h.length :: r, h ++ [(0, .inl (List.replicate n.toNatClampNeg 0))])
    | _ => none
  | .newarray .boolean => match st with
    | .int n :: r => if n < 0 ∨ 1000000 < n.toNatClampNeg then none else some (pc + 2, ls, .ref h.length :: r, h ++ [(2, .inl (List.replicate n.toNatClampNeg 0))])
    | _ => none
  | .newarray .long => match st with
    | .int n :: r => if n < 0 ∨ 1000000 < n.toNatClampNeg then none else some (pc + 2, ls, .ref h.length :: r, h ++ [(1, .inr (.inl (List.replicate n.toNatClampNeg 0)))])
    | _ => none
  | .anewarray j => match st with
    | .int n :: r => if n < 0 ∨ 1000000 < n.toNatClampNeg ∨ zisP X c j = false then none else some (pc + 3, ls, .ref h.length :: r, h ++ [(3, .inr (.inr (.inl (List.replicate n.toNatClampNeg none))))])
    | _ => none
  | _ => none
/-- one instruction that is no call and no end -/
def zstep (X : zX) (nL : Nat) (ini : Bool) (c : Nat) (i : Instr) (pc : Nat) (ls : zL) (st : List Value) (h : zH) : Option (Nat × zL × List Value × zH) :=
  match zstI X i pc ls st h with
  | some r => some r
  | none => match zstL nL i pc ls st h with
    | some r => some r
    | none => zstH X ini c i pc ls st h
