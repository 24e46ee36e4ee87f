section
/-! A SMALL MACHINE OF OUR OWN over lists, and (further below) that the Java machine follows it. Names begin with z. -/
abbrev zV : Type := List Int32 ⊕ List Int64 ⊕ List (Option Nat) ⊕ List Value
/-- a cell: number of its class (an object), or number of its array type (0 int, 1 long, 2 boolean, 3 references) -/
abbrev zE : Type := Nat × zV
abbrev zH : Type := List zE
abbrev zL : Type := List (Nat × Value)
/-- the tables: fields (own class, index), constants and statics, classes to be made, fields of things outside, arrays outside (of bytes?), types of fields, which are final -/
abbrev zX : Type := (Nat → Nat → Option (Nat × Nat)) × (Nat → Nat → Option Value) × (Nat → Nat → Option (Nat × List Value)) × (Nat → Nat → Nat → Option Value) × (Nat → Option (Bool × List Int32)) × (Nat → Nat → FieldType) × (Nat → Nat → Bool) × (Nat → Nat → Bool) × Nat × (Nat → Nat → Option Value) × (Nat → Option Nat)
def zfld (X : zX) : Nat → Nat → Option (Nat × Nat) := X.1
def zkon (X : zX) : Nat → Nat → Option Value := X.2.1
def znew (X : zX) : Nat → Nat → Option (Nat × List Value) := X.2.2.1
def zxget (X : zX) : Nat → Nat → Nat → Option Value := X.2.2.2.1
def zxarr (X : zX) : Nat → Option (Bool × List Int32) := X.2.2.2.2.1
def zty (X : zX) : Nat → Nat → FieldType := X.2.2.2.2.2.1
def zfin (X : zX) : Nat → Nat → Bool := X.2.2.2.2.2.2.1
/-- (own class, index): is it the class of which rows of references are made; is it Object.<init> -/
def zisP (X : zX) : Nat → Nat → Bool := X.2.2.2.2.2.2.2.1
/-- the number of the class whose objects lie in rows of references -/
def zpc (X : zX) : Nat := X.2.2.2.2.2.2.2.2.1
/-- statics; the class of a thing outside, by its number among the methods' classes -/
def zsta (X : zX) : Nat → Nat → Option Value := X.2.2.2.2.2.2.2.2.2.1
def zxcl (X : zX) : Nat → Option Nat := X.2.2.2.2.2.2.2.2.2.2
def zobj (fs : List Value) : zV := .inr (.inr (.inr fs))
def zget (ls : zL) (i : Nat) : Option Value := (ls.find? (fun q => q.1 == i)).map (fun q => q.2)
def zset1 (ls : zL) (i : Nat) (v : Value) : zL := (i, v) :: ls.filter (fun q => !(q.1 == i) && !(q.1 + 1 == i && q.2.category == 2))
def zset2 (ls : zL) (i : Nat) (v : Value) : zL := (i, v) :: ls.filter (fun q => !(q.1 == i) && (!(q.1 == i + 1) && !(q.1 + 1 == i && q.2.category == 2)))
/-- an address for a value that has none: types of values don't look at it -/
def zdry : Value → Value
  | .retAddr _ => .ref 0
  | v => v
def zidx (i : Int32) (n : Nat) : Bool := !(decide (i < 0)) && decide (i.toNatClampNeg < n)
def zputs (X : zX) (ini : Bool) (c ci k : Nat) (v : Value) : Bool :=
  (!(zfin X ci k) || (ini && ci == c)) && decide (narrow (zty X ci k) (zdry v) = zdry v) && fits (zty X ci k) (zdry v)
def zicmp : Jvm.ClassFile.Cond → Int32 → Int32 → Bool
  | .eq, x, y => decide (x = y)
  | .ne, x, y => !decide (x = y)
  | .lt, x, y => decide (x < y)
  | .ge, x, y => decide (y ≤ x)
  | .gt, x, y => decide (y < x)
  | .le, x, y => decide (x ≤ y)
def zjump (pc : Nat) (off : Int) (ls : zL) (st : List Value) (h : zH) : Option (Nat × zL × List Value × zH) :=
  if 0 ≤ (pc : Int) + off then some (((pc : Int) + off).toNat, ls, st, h) else none
def zbr (b : Bool) (pc : Nat) (off : Int) (ls : zL) (st : List Value) (h : zH) : Option (Nat × zL × List Value × zH) :=
  if 0 ≤ (pc : Int) + off then (if b = true then some (((pc : Int) + off).toNat, ls, st, h) else some (pc + 3, ls, st, h)) else none
def zrv : Option Nat → Value
  | none => .null
  | some k => .ref k
def zlen : Instr → Nat
  | .bipush _ | .iload _ | .aload _ | .lload _ | .istore _ | .astore _ | .lstore _ | .newarray _ | .ldc _ => 2
  | .sipush _ | .iinc _ _ | .goto _ | .if_icmp _ _ | .ifCond _ _ | .getfield _ | .putfield _ | .getstatic _ | .invokevirtual _ | .invokestatic _ | .invokespecial _ | .new _ | .anewarray _ | .ldc_w _ | .ldc2_w _ => 3
  | _ => 1
def zstI (X : zX) (i : Instr) (pc : Nat) (ls : zL) (st : List Value) (h : zH) : Option (Nat × zL × List Value × zH) :=
  match i with
  | .iadd => match st with
    | .int y :: .int x :: r => some (pc + 1, ls, .int (x + y) :: r, h)
    | _ => none
  | .isub => match st with
    | .int y :: .int x :: r => some (pc + 1, ls, .int (x - y) :: r, h)
    | _ => none
  | .imul => match st with
    | .int y :: .int x :: r => some (pc + 1, ls, .int (x * y) :: r, h)
    | _ => none
  | .iand => match st with
    | .int y :: .int x :: r => some (pc + 1, ls, .int (x &&& y) :: r, h)
    | _ => none
  | .ior => match st with
    | .int y :: .int x :: r => some (pc + 1, ls, .int (x ||| y) :: r, h)
    | _ => none
  | .ixor => match st with
    | .int y :: .int x :: r => some (pc + 1, ls, .int (x ^^^ y) :: r, h)
    | _ => none
  | .idiv => match st with
    | .int y :: .int x :: r => if y = 0 then none else some (pc + 1, ls, .int (x / y) :: r, h)
    | _ => none
  | .irem => match st with
    | .int y :: .int x :: r => if y = 0 then none else some (pc + 1, ls, .int (x - x / y * y) :: r, h)
    | _ => none
  | .ineg => match st with
    | .int x :: r => some (pc + 1, ls, .int (-x) :: r, h)
    | _ => none
  | .ishl => match st with
    | .int y :: .int x :: r => some (pc + 1, ls, .int (x <<< (y &&& 31)) :: r, h)
    | _ => none
  | .ishr => match st with
    | .int y :: .int x :: r => some (pc + 1, ls, .int (x >>> (y &&& 31)) :: r, h)
    | _ => none
  | .iushr => match st with
    | .int y :: .int x :: r => some (pc + 1, ls, .int ((x.toUInt32 >>> (y.toUInt32 &&& Int32.toUInt32 31)).toInt32) :: r, h)
    | _ => none
  | .ladd => match st with
    | .long y :: .long x :: r => some (pc + 1, ls, .long (x + y) :: r, h)
    | _ => none
  | .lsub => match st with
    | .long y :: .long x :: r => some (pc + 1, ls, .long (x - y) :: r, h)
    | _ => none
  | .lmul => match st with
    | .long y :: .long x :: r => some (pc + 1, ls, .long (x * y) :: r, h)
    | _ => none
  | .land => match st with
    | .long y :: .long x :: r => some (pc + 1, ls, .long (x &&& y) :: r, h)
    | _ => none
  | .lor => match st with
    | .long y :: .long x :: r => some (pc + 1, ls, .long (x ||| y) :: r, h)
    | _ => none
  | .lxor => match st with
    | .long y :: .long x :: r => some (pc + 1, ls, .long (x ^^^ y) :: r, h)
    | _ => none
  | .ldiv => match st with
    | .long y :: .long x :: r => if y = 0 then none else some (pc + 1, ls, .long (x / y) :: r, h)
    | _ => none
  | .lrem => match st with
    | .long y :: .long x :: r => if y = 0 then none else some (pc + 1, ls, .long (x - x / y * y) :: r, h)
    | _ => none
  | .lneg => match st with
    | .long x :: r => some (pc + 1, ls, .long (-x) :: r, h)
    | _ => none
  | .lshl => match st with
    | .int y :: .long x :: r => some (pc + 1, ls, .long (x <<< (y.toInt64 &&& 63)) :: r, h)
    | _ => none
  | .lshr => match st with
    | .int y :: .long x :: r => some (pc + 1, ls, .long (x >>> (y.toInt64 &&& 63)) :: r, h)
    | _ => none
  | .lushr => match st with
    | .int y :: .long x :: r => some (pc + 1, ls, .long ((x.toUInt64 >>> (y.toInt64.toUInt64 &&& Int64.toUInt64 63)).toInt64) :: r, h)
    | _ => none
  | .lcmp => match st with
    | .long y :: .long x :: r => some (pc + 1, ls, .int (lg_cmp x y) :: r, h)
    | _ => none
  | .i2l => match st with
    | .int x :: r => some (pc + 1, ls, .long x.toInt64 :: r, h)
    | _ => none
  | .l2i => match st with
    | .long x :: r => some (pc + 1, ls, .int x.toInt32 :: r, h)
    | _ => none
  | .i2c => match st with
    | .int x :: r => some (pc + 1, ls, .int (x.toUInt32 % 65536).toInt32 :: r, h)
    | _ => none
  | .dup => match st with
    | .int x :: r => some (pc + 1, ls, .int x :: .int x :: r, h)
    | .ref x :: r => some (pc + 1, ls, .ref x :: .ref x :: r, h)
    | _ => none
  | .dup2 => match st with
    | .int x :: .ref a :: r => some (pc + 1, ls, .int x :: .ref a :: .int x :: .ref a :: r, h)
    | _ => none
  | .pop => match st with
    | .int _ :: r => some (pc + 1, ls, r, h)
    | .ref _ :: r => some (pc + 1, ls, r, h)
    | _ => none
  | .ifCond c off => match st with
    | .int x :: r => zbr (zicmp c x 0) pc off ls r h
    | _ => none
  | .if_icmp c off => match st with
    | .int y :: .int x :: r => zbr (zicmp c x y) pc off ls r h
    | _ => none
  | .goto off => zjump pc off ls st h
  | .tableswitch d lo hi offs => match st with
    | .int x :: r => if x.toInt < lo ∨ hi < x.toInt then zjump pc d ls r h else
        match offs[(x.toInt - lo).toNat]? with
        | some off => zjump pc off ls r h
        | none => none
    | _ => none
  | .lookupswitch d ps => match st with
    | .int x :: r => if (ps.toList.zip (ps.toList.drop 1)).all (fun (a, next) => a.1 < next.1) = true then zjump pc (Op.lookupswitch.offset ps.toList d x.toInt) ls r h else none
    | _ => none
  | _ => none
def zstL (nL : Nat) (i : Instr) (pc : Nat) (ls : zL) (st : List Value) (h : zH) : Option (Nat × zL × List Value × zH) :=
  match i with
  | .iconst n => some (pc + 1, ls, .int (Int32.ofInt n) :: st, h)
  | .bipush n => some (pc + 2, ls, .int (Int8.ofInt n).toInt32 :: st, h)
  | .sipush n => some (pc + 3, ls, .int (Int16.ofInt n).toInt32 :: st, h)
  | .lconst n => some (pc + 1, ls, .long (Int64.ofNat (n : Nat)) :: st, h)
  | .iload_n k => match zget ls k with
    | some (.int x) => some (pc + 1, ls, .int x :: st, h)
    | _ => none
  | .iload k => match zget ls k with
    | some (.int x) => some (pc + 2, ls, .int x :: st, h)
    | _ => none
  | .lload_n k => match zget ls k with
    | some (.long x) => some (pc + 1, ls, .long x :: st, h)
    | _ => none
  | .lload k => match zget ls k with
    | some (.long x) => some (pc + 2, ls, .long x :: st, h)
    | _ => none
  | .aload_n k => match zget ls k with
    | some (.ref x) => some (pc + 1, ls, .ref x :: st, h)
    | some (.retAddr x) => some (pc + 1, ls, .retAddr x :: st, h)
    | some .null => some (pc + 1, ls, .null :: st, h)
    | _ => none
  | .aload k => match zget ls k with
    | some (.ref x) => some (pc + 2, ls, .ref x :: st, h)
    | some (.retAddr x) => some (pc + 2, ls, .retAddr x :: st, h)
    | some .null => some (pc + 2, ls, .null :: st, h)
    | _ => none
  | .istore_n k => match st with
    | .int x :: r => if (k : Nat) < nL then some (pc + 1, zset1 ls k (.int x), r, h) else none
    | _ => none
  | .istore k => match st with
    | .int x :: r => if k < nL then some (pc + 2, zset1 ls k (.int x), r, h) else none
    | _ => none
  | .lstore_n k => match st with
    | .long x :: r => if (k : Nat) + 1 < nL then some (pc + 1, zset2 ls k (.long x), r, h) else none
    | _ => none
  | .lstore k => match st with
    | .long x :: r => if k + 1 < nL then some (pc + 2, zset2 ls k (.long x), r, h) else none
    | _ => none
  | .astore_n k => match st with
    | .ref x :: r => if (k : Nat) < nL then some (pc + 1, zset1 ls k (.ref x), r, h) else none
    | _ => none
  | .astore k => match st with
    | .ref x :: r => if k < nL then some (pc + 2, zset1 ls k (.ref x), r, h) else none
    | _ => none
  | .iinc k n => match zget ls k with
    | some (.int x) => if k < nL then some (pc + 3, zset1 ls k (.int (x + Int32.ofInt n)), st, h) else none
    | _ => none
  | _ => none
def zstH (X : zX) (ini : Bool) (c : Nat) (i : Instr) (pc : Nat) (ls : zL) (st : List Value) (h : zH) : Option (Nat × zL × List Value × zH) :=
  match i with
  | .getfield j => match st with
    | .ref a :: r => match zfld X c j, h[a]? with
      | some (ci, k), some (ci', .inr (.inr (.inr fs))) => match fs[k]? with
        | some v => if ci' = ci then some (pc + 3, ls, v :: r, h) else none
        | none => none
      | _, _ => none
    | .retAddr e :: r => match zxget X c j e with
      | some v => some (pc + 3, ls, v :: r, h)
      | none => none
    | _ => none
  | .putfield j => match st with
    | v :: .ref a :: r => match zfld X c j, h[a]? with
      | some (ci, k), some (ci', .inr (.inr (.inr fs))) => if ci' = ci ∧ k < fs.length ∧ zputs X ini c ci k v = true then some (pc + 3, ls, r, h.set a (ci, .inr (.inr (.inr (fs.set k v))))) else none
      | _, _ => none
    | _ => none
  | .getstatic j => match zsta X c j with
    | some v => some (pc + 3, ls, v :: st, h)
    | none => none
  | .ldc j => match zkon X c j with
    | some (.int x) => some (pc + 2, ls, .int x :: st, h)
    | some (.retAddr x) => some (pc + 2, ls, .retAddr x :: st, h)
    | _ => none
  | .ldc_w j => match zkon X c j with
    | some (.int x) => some (pc + 3, ls, .int x :: st, h)
    | _ => none
  | .ldc2_w j => match zkon X c j with
    | some (.long x) => some (pc + 3, ls, .long x :: st, h)
    | _ => none
  | .iaload => match st with
    | .int i :: .ref a :: r => match h[a]? with
      | some (0, .inl l) => if zidx i l.length = true then some (pc + 1, ls, .int (l.getD i.toNatClampNeg 0) :: r, h) else none
      | _ => none
    | .int i :: .retAddr e :: r => match zxarr X e with
      | some (false, l) => if zidx i l.length = true then some (pc + 1, ls, .int (l.getD i.toNatClampNeg 0) :: r, h) else none
      | _ => none
    | _ => none
  | .baload => match st with
    | .int i :: .ref a :: r => match h[a]? with
      | some (2, .inl l) => if zidx i l.length = true then some (pc + 1, ls, .int (l.getD i.toNatClampNeg 0) :: r, h) else none
      | _ => none
    | .int i :: .retAddr e :: r => match zxarr X e with
      | some (true, l) => if zidx i l.length = true then some (pc + 1, ls, .int (l.getD i.toNatClampNeg 0) :: r, h) else none
      | _ => none
    | _ => none
  | .laload => match st with
    | .int i :: .ref a :: r => match h[a]? with
      | some (1, .inr (.inl l)) => if zidx i l.length = true then some (pc + 1, ls, .long (l.getD i.toNatClampNeg 0) :: r, h) else none
      | _ => none
    | _ => none
  | .aaload => match st with
    | .int i :: .ref a :: r => match h[a]? with
      | some (3, .inr (.inr (.inl l))) => if zidx i l.length = true then some (pc + 1, ls, zrv (l.getD i.toNatClampNeg none) :: r, h) else none
      | _ => none
    | _ => none
  | .iastore => match st with
    | .int x :: .int i :: .ref a :: r => match h[a]? with
      | some (0, .inl l) => if zidx i l.length = true then some (pc + 1, ls, r, h.set a (0, .inl (l.set i.toNatClampNeg x))) else none
      | _ => none
    | _ => none
  | .bastore => match st with
    | .int x :: .int i :: .ref a :: r => match h[a]? with
      | some (2, .inl l) => if zidx i l.length = true then some (pc + 1, ls, r, h.set a (2, .inl (l.set i.toNatClampNeg (x &&& 1)))) else none
      | _ => none
    | _ => none
  | .lastore => match st with
    | .long x :: .int i :: .ref a :: r => match h[a]? with
      | some (1, .inr (.inl l)) => if zidx i l.length = true then some (pc + 1, ls, r, h.set a (1, .inr (.inl (l.set i.toNatClampNeg x)))) else none
      | _ => none
    | _ => none
  | .aastore => match st with
    | .ref v :: .int i :: .ref a :: r => match h[a]?, h[v]? with
      | some (3, .inr (.inr (.inl l))), some (ci, .inr (.inr (.inr _))) => if zidx i l.length = true ∧ ci = zpc X then some (pc + 1, ls, r, h.set a (3, .inr (.inr (.inl (l.set i.toNatClampNeg (some v)))))) else none
      | _, _ => none
    | _ => none
  | .arraylength => match st with
    | .ref a :: r => match h[a]? with
      | some (0, .inl l) => some (pc + 1, ls, .int (Int32.ofNat l.length) :: r, h)
      | some (2, .inl l) => some (pc + 1, ls, .int (Int32.ofNat l.length) :: r, h)
      | some (1, .inr (.inl l)) => some (pc + 1, ls, .int (Int32.ofNat l.length) :: r, h)
      | some (3, .inr (.inr (.inl l))) => some (pc + 1, ls, .int (Int32.ofNat l.length) :: r, h)
      | _ => none
    | .retAddr e :: r => match zxarr X e with
      | some (_, l) => some (pc + 1, ls, .int (Int32.ofNat l.length) :: r, h)
      | _ => none
    | _ => none
  | .new j => match znew X c j with
    | some (ci, fs) => some (pc + 3, ls, .ref h.length :: st, h ++ [(ci, .inr (.inr (.inr fs)))])
    | none => none
  | .newarray .int => match st with
    | .int n :: r => if n < 0 ∨ 1000000 < n.toNatClampNeg then none else some (pc + 2, ls, .ref h.length :: r, h ++ [(0, .inl (List.replicate n.toNatClampNeg 0))])
    | _ => none
  | .newarray .boolean => match st with
    | .int n :: r => if n < 0 ∨ 1000000 < n.toNatClampNeg then none else some (pc + 2, ls, .ref h.length :: r, h ++ [(2, .inl (List.replicate n.toNatClampNeg 0))])
    | _ => none
  | .newarray .long => match st with
    | .int n :: r => if n < 0 ∨ 1000000 < n.toNatClampNeg then none else some (pc + 2, ls, .ref h.length :: r, h ++ [(1, .inr (.inl (List.replicate n.toNatClampNeg 0)))])
    | _ => none
  | .anewarray j => match st with
    | .int n :: r => if n < 0 ∨ 1000000 < n.toNatClampNeg ∨ zisP X c j = false then none else some (pc + 3, ls, .ref h.length :: r, h ++ [(3, .inr (.inr (.inl (List.replicate n.toNatClampNeg none))))])
    | _ => none
  | _ => none
/-- one instruction that is no call and no end -/
def zstep (X : zX) (nL : Nat) (ini : Bool) (c : Nat) (i : Instr) (pc : Nat) (ls : zL) (st : List Value) (h : zH) : Option (Nat × zL × List Value × zH) :=
  match zstI X i pc ls st h with
  | some r => some r
  | none => match zstL nL i pc ls st h with
    | some r => some r
    | none => zstH X ini c i pc ls st h
end
section
/-! What a cell, a value, a heap of our machine is on the Java machine. B: where its cells begin; xa: addresses of things outside; ca: classes of arrays. -/
def zcv (B : Nat) (xa : Nat → Nat) : Value → Value
  | .ref k => .ref (B + k)
  | .retAddr k => .ref (xa k)
  | .int x => .int x
  | .long x => .long x
  | .float x => .float x
  | .double x => .double x
  | .null => .null
def zcl (B : Nat) (xa : Nat → Nat) (ls : zL) : List (Nat × Value) := ls.map (fun q => (q.1, zcv B xa q.2))
def zc (B : Nat) (xa : Nat → Nat) (ca : Nat → ClassId) : zE → va_E
  | (t, .inl l) => .inl (ca t, l.length, .inl (fun k => l.getD k 0))
  | (t, .inr (.inl l)) => .inl (ca t, l.length, .inr (.inl (fun k => l.getD k 0)))
  | (t, .inr (.inr (.inl l))) => .inl (ca t, l.length, .inr (.inr (.inr (.inr (fun k => (l.getD k none).map (fun q => B + q))))))
  | (ci, .inr (.inr (.inr fs))) => .inr (ci, fs.map (zcv B xa))
def zHR (B : Nat) (xa : Nat → Nat) (ca : Nat → ClassId) (D : va_G) (cl : List vw_C) (h : zH) (H : Heap) : Prop :=
  H.size = B + h.length ∧ ∀ (k : Nat) (e : zE), h[k]? = some e → e.1 < 1000 → va_at D cl (B + k, zc B xa ca e) H
theorem zcv_cat (B : Nat) (xa : Nat → Nat) (v : Value) : (zcv B xa v).category = v.category := by cases v <;> rfl
theorem zget_mem {ls : zL} {i : Nat} {v : Value} (h : zget ls i = some v) : (i, v) ∈ ls := by
  unfold zget at h
  cases hf : ls.find? (fun q => q.1 == i) with
  | none => rw [hf] at h; cases h
  | some q =>
    rw [hf] at h
    have h1 := List.find?_some hf
    have h2 := List.mem_of_find?_eq_some hf
    obtain ⟨a, b⟩ := q
    have e1 : a = i := by simpa using h1
    have e2 : b = v := by simpa using h
    subst e1; subst e2
    exact h2
theorem zget_at {B : Nat} {xa : Nat → Nat} {LS : Array Slot} {nL : Nat} {ls : zL} {i : Nat} {v : Value} (hl : lv_has LS nL (zcl B xa ls)) (h : zget ls i = some v) : LS[i]? = some (.val (zcv B xa v)) :=
  hl.2.2 (i, zcv B xa v) (List.mem_map.mpr ⟨(i, v), zget_mem h, rfl⟩)
theorem zset1_cl (B : Nat) (xa : Nat → Nat) (ls : zL) (i : Nat) (v : Value) : (i, zcv B xa v) :: (zcl B xa ls).filter (fun q => !(q.1 == i) && !(q.1 + 1 == i && q.2.category == 2)) = zcl B xa (zset1 ls i v) := by
  unfold zcl zset1
  rw [List.filter_map, List.map_cons]
  congr 2
  apply List.filter_congr
  intro q _
  simp [Function.comp, zcv_cat]
theorem zset2_cl (B : Nat) (xa : Nat → Nat) (ls : zL) (i : Nat) (v : Value) : (i, zcv B xa v) :: (zcl B xa ls).filter (fun q => !(q.1 == i) && (!(q.1 == i + 1) && !(q.1 + 1 == i && q.2.category == 2))) = zcl B xa (zset2 ls i v) := by
  unfold zcl zset2
  rw [List.filter_map, List.map_cons]
  congr 2
  apply List.filter_congr
  intro q _
  simp [Function.comp, zcv_cat]
def zlok (i : Instr) (len : Nat) : Bool := match i with
  | .tableswitch _ _ _ _ => true
  | .lookupswitch _ _ => true
  | _ => len == zlen i
theorem zjump_of {pc : Nat} {off : Int} {ls : zL} {st : List Value} {h : zH} {pc' : Nat} {ls' : zL} {st' : List Value} {h' : zH} (e : zjump pc off ls st h = some (pc', ls', st', h')) : (pc : Int) + off = (pc' : Int) ∧ ls' = ls ∧ st' = st ∧ h' = h := by
  unfold zjump at e
  split at e
  · cases e
    exact ⟨by omega, rfl, rfl, rfl⟩
  · cases e

theorem zbr_of {b : Bool} {pc : Nat} {off : Int} {ls : zL} {st : List Value} {h : zH} {pc' : Nat} {ls' : zL} {st' : List Value} {h' : zH} (e : zbr b pc off ls st h = some (pc', ls', st', h')) : ∃ tgt : Nat, (pc : Int) + off = (tgt : Int) ∧ ls' = ls ∧ st' = st ∧ h' = h ∧ ((b = true ∧ pc' = tgt) ∨ (b = false ∧ pc' = pc + 3)) := by
  unfold zbr at e
  split at e
  · split at e
    · next hb =>
      cases e
      exact ⟨_, by omega, rfl, rfl, rfl, Or.inl ⟨hb, rfl⟩⟩
    · next hb =>
      cases e
      exact ⟨((pc : Int) + off).toNat, by omega, rfl, rfl, rfl, Or.inr ⟨by simpa using hb, rfl⟩⟩
  · cases e

section ZS
variable {p : Program} {l : Launch} {e : Env} {R : Room} {s : State} {m : MethodId} {args : Array Value} {below : List Frame} {meth : Method} {c : Code} {H : Heap} {locs : List Loc} {cells slots : Nat} {Q : State → Prop}
variable {cc : ByteArray} {B : Nat} {xa : Nat → Nat}
set_option maxHeartbeats 4000000 in
set_option maxRecDepth 100000 in
theorem zstI_ok {X : zX} {i : Instr} {len pc : Nat} {ls : zL} {st : List Value} {h : zH} {pc' : Nat} {ls' : zL} {st' : List Value} {h' : zH} {LS : Array Slot} (hx : p.tables.exec = Jvm.exec) (hb : c.code = cc) (hd : decode cc pc = .ok (i, len)) (hlen : zlok i len = true)
    (hs : zstI X i pc ls st h = some (pc', ls', st', h')) (k : W p l e R s m args below meth c H locs cells slots Q (F0 m pc' LS (st'.map (zcv B xa)))) : (W p l e R s m args below meth c H locs cells slots Q (F0 m pc LS (st.map (zcv B xa)))) ∧ ls' = ls ∧ h' = h := by
  cases i with
  | iadd =>
    obtain rfl : len = 1 := eq_of_beq hlen
    dsimp only [zstI] at hs
    split at hs
    · cases hs
      exact ⟨lv_iadd hx hb hd k, rfl, rfl⟩
    · cases hs
  | isub =>
    obtain rfl : len = 1 := eq_of_beq hlen
    dsimp only [zstI] at hs
    split at hs
    · cases hs
      exact ⟨lv_isub hx hb hd k, rfl, rfl⟩
    · cases hs
  | imul =>
    obtain rfl : len = 1 := eq_of_beq hlen
    dsimp only [zstI] at hs
    split at hs
    · cases hs
      exact ⟨lv_imul hx hb hd k, rfl, rfl⟩
    · cases hs
  | iand =>
    obtain rfl : len = 1 := eq_of_beq hlen
    dsimp only [zstI] at hs
    split at hs
    · cases hs
      exact ⟨lv_iand hx hb hd k, rfl, rfl⟩
    · cases hs
  | ior =>
    obtain rfl : len = 1 := eq_of_beq hlen
    dsimp only [zstI] at hs
    split at hs
    · cases hs
      exact ⟨lv_ior hx hb hd k, rfl, rfl⟩
    · cases hs
  | ixor =>
    obtain rfl : len = 1 := eq_of_beq hlen
    dsimp only [zstI] at hs
    split at hs
    · cases hs
      exact ⟨lv_ixor hx hb hd k, rfl, rfl⟩
    · cases hs
  | ladd =>
    obtain rfl : len = 1 := eq_of_beq hlen
    dsimp only [zstI] at hs
    split at hs
    · cases hs
      exact ⟨lv_ladd hx hb hd k, rfl, rfl⟩
    · cases hs
  | lsub =>
    obtain rfl : len = 1 := eq_of_beq hlen
    dsimp only [zstI] at hs
    split at hs
    · cases hs
      exact ⟨lv_lsub hx hb hd k, rfl, rfl⟩
    · cases hs
  | lmul =>
    obtain rfl : len = 1 := eq_of_beq hlen
    dsimp only [zstI] at hs
    split at hs
    · cases hs
      exact ⟨lv_lmul hx hb hd k, rfl, rfl⟩
    · cases hs
  | land =>
    obtain rfl : len = 1 := eq_of_beq hlen
    dsimp only [zstI] at hs
    split at hs
    · cases hs
      exact ⟨lv_land hx hb hd k, rfl, rfl⟩
    · cases hs
  | lor =>
    obtain rfl : len = 1 := eq_of_beq hlen
    dsimp only [zstI] at hs
    split at hs
    · cases hs
      exact ⟨lv_lor hx hb hd k, rfl, rfl⟩
    · cases hs
  | lxor =>
    obtain rfl : len = 1 := eq_of_beq hlen
    dsimp only [zstI] at hs
    split at hs
    · cases hs
      exact ⟨lv_lxor hx hb hd k, rfl, rfl⟩
    · cases hs
  | ineg =>
    obtain rfl : len = 1 := eq_of_beq hlen
    dsimp only [zstI] at hs
    split at hs
    · cases hs
      exact ⟨lv_ineg hx hb hd k, rfl, rfl⟩
    · cases hs
  | lneg =>
    obtain rfl : len = 1 := eq_of_beq hlen
    dsimp only [zstI] at hs
    split at hs
    · cases hs
      exact ⟨lv_lneg hx hb hd k, rfl, rfl⟩
    · cases hs
  | ishl =>
    obtain rfl : len = 1 := eq_of_beq hlen
    dsimp only [zstI] at hs
    split at hs
    · cases hs
      exact ⟨lv_ishl hx hb hd k, rfl, rfl⟩
    · cases hs
  | ishr =>
    obtain rfl : len = 1 := eq_of_beq hlen
    dsimp only [zstI] at hs
    split at hs
    · cases hs
      exact ⟨lv_ishr hx hb hd k, rfl, rfl⟩
    · cases hs
  | iushr =>
    obtain rfl : len = 1 := eq_of_beq hlen
    dsimp only [zstI] at hs
    split at hs
    · cases hs
      exact ⟨lv_iushr hx hb hd rfl k, rfl, rfl⟩
    · cases hs
  | lshl =>
    obtain rfl : len = 1 := eq_of_beq hlen
    dsimp only [zstI] at hs
    split at hs
    · cases hs
      exact ⟨lv_lshl hx hb hd rfl k, rfl, rfl⟩
    · cases hs
  | lshr =>
    obtain rfl : len = 1 := eq_of_beq hlen
    dsimp only [zstI] at hs
    split at hs
    · cases hs
      exact ⟨lv_lshr hx hb hd rfl k, rfl, rfl⟩
    · cases hs
  | lushr =>
    obtain rfl : len = 1 := eq_of_beq hlen
    dsimp only [zstI] at hs
    split at hs
    · cases hs
      exact ⟨lv_lushr hx hb hd rfl k, rfl, rfl⟩
    · cases hs
  | i2l =>
    obtain rfl : len = 1 := eq_of_beq hlen
    dsimp only [zstI] at hs
    split at hs
    · cases hs
      exact ⟨lv_i2l hx hb hd rfl k, rfl, rfl⟩
    · cases hs
  | l2i =>
    obtain rfl : len = 1 := eq_of_beq hlen
    dsimp only [zstI] at hs
    split at hs
    · cases hs
      exact ⟨lv_l2i hx hb hd rfl k, rfl, rfl⟩
    · cases hs
  | i2c =>
    obtain rfl : len = 1 := eq_of_beq hlen
    dsimp only [zstI] at hs
    split at hs
    · cases hs
      exact ⟨lv_i2c hx hb hd rfl k, rfl, rfl⟩
    · cases hs
  | lcmp =>
    obtain rfl : len = 1 := eq_of_beq hlen
    dsimp only [zstI] at hs
    split at hs
    · cases hs
      exact ⟨W.lcmp hx hb hd k, rfl, rfl⟩
    · cases hs
  | idiv =>
    obtain rfl : len = 1 := eq_of_beq hlen
    dsimp only [zstI] at hs
    split at hs
    · split at hs
      · cases hs
      · next hy =>
        cases hs
        exact ⟨lv_idiv hx hb hd hy k, rfl, rfl⟩
    · cases hs
  | irem =>
    obtain rfl : len = 1 := eq_of_beq hlen
    dsimp only [zstI] at hs
    split at hs
    · split at hs
      · cases hs
      · next hy =>
        cases hs
        exact ⟨lv_irem hx hb hd hy k, rfl, rfl⟩
    · cases hs
  | ldiv =>
    obtain rfl : len = 1 := eq_of_beq hlen
    dsimp only [zstI] at hs
    split at hs
    · split at hs
      · cases hs
      · next hy =>
        cases hs
        exact ⟨lv_ldiv hx hb hd hy k, rfl, rfl⟩
    · cases hs
  | lrem =>
    obtain rfl : len = 1 := eq_of_beq hlen
    dsimp only [zstI] at hs
    split at hs
    · split at hs
      · cases hs
      · next hy =>
        cases hs
        exact ⟨lv_lrem hx hb hd hy k, rfl, rfl⟩
    · cases hs
  | dup =>
    obtain rfl : len = 1 := eq_of_beq hlen
    dsimp only [zstI] at hs
    split at hs
    · cases hs
      exact ⟨lv_dup hx hb hd rfl k, rfl, rfl⟩
    · cases hs
      exact ⟨lv_dup hx hb hd rfl k, rfl, rfl⟩
    · cases hs
  | dup2 =>
    obtain rfl : len = 1 := eq_of_beq hlen
    dsimp only [zstI] at hs
    split at hs
    · cases hs
      exact ⟨lv_dup2_11 hx hb hd rfl rfl k, rfl, rfl⟩
    · cases hs
  | pop =>
    obtain rfl : len = 1 := eq_of_beq hlen
    dsimp only [zstI] at hs
    split at hs
    · cases hs
      exact ⟨lv_pop hx hb hd rfl k, rfl, rfl⟩
    · cases hs
      exact ⟨lv_pop hx hb hd rfl k, rfl, rfl⟩
    · cases hs
  | ifCond cnd off =>
    obtain rfl : len = 3 := eq_of_beq hlen
    dsimp only [zstI] at hs
    split at hs
    · obtain ⟨tgt, ht, rfl, rfl, rfl, hc⟩ := zbr_of hs
      refine ⟨?_, rfl, rfl⟩
      cases cnd with
      | eq =>
        refine lv_if_eq hx hb hd ht (fun q => ?_) (fun q => ?_)
        · rcases hc with ⟨_, rfl⟩ | ⟨hz, _⟩
          · exact k
          · exact absurd q (by simpa [zicmp] using hz)
        · rcases hc with ⟨hz, _⟩ | ⟨_, rfl⟩
          · exact absurd q (by simpa [zicmp] using hz)
          · exact k
      | ne =>
        refine lv_if_ne hx hb hd ht (fun q => ?_) (fun q => ?_)
        · rcases hc with ⟨_, rfl⟩ | ⟨hz, _⟩
          · exact k
          · exact absurd q (by simpa [zicmp] using hz)
        · rcases hc with ⟨hz, _⟩ | ⟨_, rfl⟩
          · exact absurd q (by simpa [zicmp] using hz)
          · exact k
      | lt =>
        refine lv_if_lt hx hb hd ht (fun q => ?_) (fun q => ?_)
        · rcases hc with ⟨_, rfl⟩ | ⟨hz, _⟩
          · exact k
          · exact absurd q (by simpa [zicmp] using hz)
        · rcases hc with ⟨hz, _⟩ | ⟨_, rfl⟩
          · exact absurd q (by simpa [zicmp] using hz)
          · exact k
      | ge =>
        refine lv_if_ge hx hb hd ht (fun q => ?_) (fun q => ?_)
        · rcases hc with ⟨_, rfl⟩ | ⟨hz, _⟩
          · exact k
          · exact absurd q (by simpa [zicmp] using hz)
        · rcases hc with ⟨hz, _⟩ | ⟨_, rfl⟩
          · exact absurd q (by simpa [zicmp] using hz)
          · exact k
      | gt =>
        refine lv_if_gt hx hb hd ht (fun q => ?_) (fun q => ?_)
        · rcases hc with ⟨_, rfl⟩ | ⟨hz, _⟩
          · exact k
          · exact absurd q (by simpa [zicmp] using hz)
        · rcases hc with ⟨hz, _⟩ | ⟨_, rfl⟩
          · exact absurd q (by simpa [zicmp] using hz)
          · exact k
      | le =>
        refine lv_if_le hx hb hd ht (fun q => ?_) (fun q => ?_)
        · rcases hc with ⟨_, rfl⟩ | ⟨hz, _⟩
          · exact k
          · exact absurd q (by simpa [zicmp] using hz)
        · rcases hc with ⟨hz, _⟩ | ⟨_, rfl⟩
          · exact absurd q (by simpa [zicmp] using hz)
          · exact k
    · cases hs
  | if_icmp cnd off =>
    obtain rfl : len = 3 := eq_of_beq hlen
    dsimp only [zstI] at hs
    split at hs
    · obtain ⟨tgt, ht, rfl, rfl, rfl, hc⟩ := zbr_of hs
      refine ⟨?_, rfl, rfl⟩
      cases cnd with
      | eq =>
        refine lv_icmp_eq hx hb hd ht (fun q => ?_) (fun q => ?_)
        · rcases hc with ⟨_, rfl⟩ | ⟨hz, _⟩
          · exact k
          · exact absurd q (by simpa [zicmp] using hz)
        · rcases hc with ⟨hz, _⟩ | ⟨_, rfl⟩
          · exact absurd q (by simpa [zicmp] using hz)
          · exact k
      | ne =>
        refine lv_icmp_ne hx hb hd ht (fun q => ?_) (fun q => ?_)
        · rcases hc with ⟨_, rfl⟩ | ⟨hz, _⟩
          · exact k
          · exact absurd q (by simpa [zicmp] using hz)
        · rcases hc with ⟨hz, _⟩ | ⟨_, rfl⟩
          · exact absurd q (by simpa [zicmp] using hz)
          · exact k
      | lt =>
        refine lv_icmp_lt hx hb hd ht (fun q => ?_) (fun q => ?_)
        · rcases hc with ⟨_, rfl⟩ | ⟨hz, _⟩
          · exact k
          · exact absurd q (by simpa [zicmp] using hz)
        · rcases hc with ⟨hz, _⟩ | ⟨_, rfl⟩
          · exact absurd q (by simpa [zicmp] using hz)
          · exact k
      | ge =>
        refine lv_icmp_ge hx hb hd ht (fun q => ?_) (fun q => ?_)
        · rcases hc with ⟨_, rfl⟩ | ⟨hz, _⟩
          · exact k
          · exact absurd q (by simpa [zicmp] using hz)
        · rcases hc with ⟨hz, _⟩ | ⟨_, rfl⟩
          · exact absurd q (by simpa [zicmp] using hz)
          · exact k
      | gt =>
        refine lv_icmp_gt hx hb hd ht (fun q => ?_) (fun q => ?_)
        · rcases hc with ⟨_, rfl⟩ | ⟨hz, _⟩
          · exact k
          · exact absurd q (by simpa [zicmp] using hz)
        · rcases hc with ⟨hz, _⟩ | ⟨_, rfl⟩
          · exact absurd q (by simpa [zicmp] using hz)
          · exact k
      | le =>
        refine lv_icmp_le hx hb hd ht (fun q => ?_) (fun q => ?_)
        · rcases hc with ⟨_, rfl⟩ | ⟨hz, _⟩
          · exact k
          · exact absurd q (by simpa [zicmp] using hz)
        · rcases hc with ⟨hz, _⟩ | ⟨_, rfl⟩
          · exact absurd q (by simpa [zicmp] using hz)
          · exact k
    · cases hs
  | goto off =>
    obtain rfl : len = 3 := eq_of_beq hlen
    dsimp only [zstI] at hs
    obtain ⟨ht, rfl, rfl, rfl⟩ := zjump_of hs
    exact ⟨lv_goto hx hb hd ht k, rfl, rfl⟩
  | tableswitch d lo hi offs =>
    dsimp only [zstI] at hs
    split at hs
    · split at hs
      · next ho =>
        obtain ⟨ht, rfl, rfl, rfl⟩ := zjump_of hs
        exact ⟨lv_tableOut hx hb hd ho ht k, rfl, rfl⟩
      · next ho =>
        split at hs
        · next hoff =>
          obtain ⟨ht, rfl, rfl, rfl⟩ := zjump_of hs
          exact ⟨lv_tableIn hx hb hd (fun q => ho (Or.inl q)) (fun q => ho (Or.inr q)) hoff ht k, rfl, rfl⟩
        · cases hs
    · cases hs
  | lookupswitch d ps =>
    dsimp only [zstI] at hs
    split at hs
    · split at hs
      · next hp =>
        obtain ⟨ht, rfl, rfl, rfl⟩ := zjump_of hs
        exact ⟨lv_lookup hx hb hd hp rfl ht k, rfl, rfl⟩
      · cases hs
    · cases hs
  | _ => exact nomatch (show (none : Option (Nat × zL × List Value × zH)) = some _ from hs)
end ZS
end
section
section ZS
variable {p : Program} {l : Launch} {e : Env} {R : Room} {s : State} {m : MethodId} {args : Array Value} {below : List Frame} {meth : Method} {c : Code} {H : Heap} {locs : List Loc} {cells slots : Nat} {Q : State → Prop}
variable {cc : ByteArray} {B : Nat} {xa : Nat → Nat}
set_option maxHeartbeats 4000000 in
set_option maxRecDepth 100000 in
theorem zstL_ok {nL : Nat} {i : Instr} {len pc : Nat} {ls : zL} {st : List Value} {h : zH} {pc' : Nat} {ls' : zL} {st' : List Value} {h' : zH} {LS : Array Slot} (hx : p.tables.exec = Jvm.exec) (hb : c.code = cc) (hd : decode cc pc = .ok (i, len)) (hlen : zlok i len = true) (hl : lv_has LS nL (zcl B xa ls))
    (hs : zstL nL i pc ls st h = some (pc', ls', st', h')) (k : ∀ LS' : Array Slot, lv_has LS' nL (zcl B xa ls') → W p l e R s m args below meth c H locs cells slots Q (F0 m pc' LS' (st'.map (zcv B xa)))) : (W p l e R s m args below meth c H locs cells slots Q (F0 m pc LS (st.map (zcv B xa)))) ∧ h' = h := by
  cases i with
  | iconst n =>
    obtain rfl : len = 1 := eq_of_beq hlen
    dsimp only [zstL] at hs
    cases hs
    exact ⟨lv_iconst hx hb hd rfl (k LS hl), rfl⟩
  | bipush n =>
    obtain rfl : len = 2 := eq_of_beq hlen
    dsimp only [zstL] at hs
    cases hs
    exact ⟨lv_bipush hx hb hd rfl (k LS hl), rfl⟩
  | sipush n =>
    obtain rfl : len = 3 := eq_of_beq hlen
    dsimp only [zstL] at hs
    cases hs
    exact ⟨lv_sipush hx hb hd rfl (k LS hl), rfl⟩
  | lconst n =>
    obtain rfl : len = 1 := eq_of_beq hlen
    dsimp only [zstL] at hs
    cases hs
    exact ⟨lv_lconst hx hb hd rfl (k LS hl), rfl⟩
  | iload_n j =>
    obtain rfl : len = 1 := eq_of_beq hlen
    dsimp only [zstL] at hs
    split at hs
    · next hg =>
      cases hs
      exact ⟨lv_iload_n hx hb hd rfl (zget_at hl hg) (k LS hl), rfl⟩
    · cases hs
  | lload_n j =>
    obtain rfl : len = 1 := eq_of_beq hlen
    dsimp only [zstL] at hs
    split at hs
    · next hg =>
      cases hs
      exact ⟨lv_lload_n hx hb hd rfl (zget_at hl hg) (k LS hl), rfl⟩
    · cases hs
  | iload j =>
    obtain rfl : len = 2 := eq_of_beq hlen
    dsimp only [zstL] at hs
    split at hs
    · next hg =>
      cases hs
      exact ⟨lv_iload hx hb hd (zget_at hl hg) (k LS hl), rfl⟩
    · cases hs
  | lload j =>
    obtain rfl : len = 2 := eq_of_beq hlen
    dsimp only [zstL] at hs
    split at hs
    · next hg =>
      cases hs
      exact ⟨lv_lload hx hb hd (zget_at hl hg) (k LS hl), rfl⟩
    · cases hs
  | aload_n j =>
    obtain rfl : len = 1 := eq_of_beq hlen
    dsimp only [zstL] at hs
    split at hs
    · next hg =>
      cases hs
      exact ⟨lv_aload_n hx hb hd rfl (zget_at hl hg) (k LS hl), rfl⟩
    · next hg =>
      cases hs
      exact ⟨lv_aload_n hx hb hd rfl (zget_at hl hg) (k LS hl), rfl⟩
    · next hg =>
      cases hs
      exact ⟨lv_aload_nN hx hb hd rfl (zget_at hl hg) (k LS hl), rfl⟩
    · cases hs
  | aload j =>
    obtain rfl : len = 2 := eq_of_beq hlen
    dsimp only [zstL] at hs
    split at hs
    · next hg =>
      cases hs
      exact ⟨lv_aload hx hb hd (zget_at hl hg) (k LS hl), rfl⟩
    · next hg =>
      cases hs
      exact ⟨lv_aload hx hb hd (zget_at hl hg) (k LS hl), rfl⟩
    · next hg =>
      cases hs
      exact ⟨lv_aloadN hx hb hd (zget_at hl hg) (k LS hl), rfl⟩
    · cases hs
  | istore_n j =>
    obtain rfl : len = 1 := eq_of_beq hlen
    dsimp only [zstL] at hs
    split at hs
    · split at hs
      · next hn =>
        cases hs
        exact ⟨lv_istore_n hx hb hd rfl hl hn (zset1_cl B xa ls _ (.int _)) (fun ls2 h2 => k ls2 h2), rfl⟩
      · cases hs
    · cases hs
  | astore_n j =>
    obtain rfl : len = 1 := eq_of_beq hlen
    dsimp only [zstL] at hs
    split at hs
    · split at hs
      · next hn =>
        cases hs
        exact ⟨lv_astore_n hx hb hd rfl hl hn (zset1_cl B xa ls _ (.ref _)) (fun ls2 h2 => k ls2 h2), rfl⟩
      · cases hs
    · cases hs
  | lstore_n j =>
    obtain rfl : len = 1 := eq_of_beq hlen
    dsimp only [zstL] at hs
    split at hs
    · split at hs
      · next hn =>
        cases hs
        exact ⟨lv_lstore_n hx hb hd rfl hl hn (zset2_cl B xa ls _ (.long _)) (fun ls2 h2 => k ls2 h2), rfl⟩
      · cases hs
    · cases hs
  | istore j =>
    obtain rfl : len = 2 := eq_of_beq hlen
    dsimp only [zstL] at hs
    split at hs
    · split at hs
      · next hn =>
        cases hs
        exact ⟨lv_istore hx hb hd hl hn (zset1_cl B xa ls _ (.int _)) (fun ls2 h2 => k ls2 h2), rfl⟩
      · cases hs
    · cases hs
  | astore j =>
    obtain rfl : len = 2 := eq_of_beq hlen
    dsimp only [zstL] at hs
    split at hs
    · split at hs
      · next hn =>
        cases hs
        exact ⟨lv_astore hx hb hd hl hn (zset1_cl B xa ls _ (.ref _)) (fun ls2 h2 => k ls2 h2), rfl⟩
      · cases hs
    · cases hs
  | lstore j =>
    obtain rfl : len = 2 := eq_of_beq hlen
    dsimp only [zstL] at hs
    split at hs
    · split at hs
      · next hn =>
        cases hs
        exact ⟨lv_lstore hx hb hd hl hn (zset2_cl B xa ls _ (.long _)) (fun ls2 h2 => k ls2 h2), rfl⟩
      · cases hs
    · cases hs
  | iinc j n =>
    obtain rfl : len = 3 := eq_of_beq hlen
    dsimp only [zstL] at hs
    split at hs
    · next x hg =>
      split at hs
      · next hn =>
        cases hs
        obtain ⟨i9, hi9⟩ := List.getElem?_of_mem (List.mem_map.mpr ⟨(j, .int x), zget_mem hg, rfl⟩ : (j, Value.int x) ∈ zcl B xa ls)
        exact ⟨lv_iinc hx hb hd hl hi9 rfl hn (zset1_cl B xa ls j (.int (x + Int32.ofInt n))) (fun ls2 h2 => k ls2 h2), rfl⟩
      · cases hs
    · cases hs
  | _ => exact nomatch (show (none : Option (Nat × zL × List Value × zH)) = some _ from hs)
end ZS
end
section
/-! Cells: one is changed, one comes. -/
def zsz (e : zE) : Nat := match e.2 with
  | .inl l => l.length
  | .inr (.inl l) => l.length
  | .inr (.inr (.inl l)) => l.length
  | .inr (.inr (.inr l)) => l.length
def zsl (h : zH) : Nat := (h.map zsz).sum
theorem zsl_set : ∀ {h : zH} {a : Nat} {e e' : zE}, h[a]? = some e → zsz e' = zsz e → zsl (h.set a e') = zsl h
  | [], _, _, _, h, _ => by simp at h
  | x :: h, 0, e, e', he, hz => by
    simp at he
    subst he
    simp [zsl, hz]
  | x :: h, a + 1, e, e', he, hz => by
    have h1 : h[a]? = some e := by simpa using he
    have h2 := zsl_set h1 hz
    simp only [zsl, List.set_cons_succ, List.map_cons, List.sum_cons] at h2 ⊢
    rw [h2]
theorem zsl_push (h : zH) (e : zE) : zsl (h ++ [e]) = zsl h + zsz e := by simp [zsl]
theorem zHR_set {B : Nat} {xa : Nat → Nat} {ca : Nat → ClassId} {D : va_G} {cl : List vw_C} {h : zH} {H H1 : Heap} {a : Nat} {e' : zE} (hR : zHR B xa ca D cl h H) (hz : H1.size = H.size) (oq : ∀ q : Nat, q ≠ B + a → H1[q]? = H[q]?) (hat : va_at D cl (B + a, zc B xa ca e') H1) : zHR B xa ca D cl (h.set a e') H1 := by
  refine ⟨by rw [hz, hR.1, List.length_set], fun k x hk hlt => ?_⟩
  by_cases hka : k = a
  · subst hka
    rw [List.getElem?_set] at hk
    split at hk
    · split at hk
      · cases hk
        exact hat
      · cases hk
    · next hne => exact absurd rfl hne
  · rw [List.getElem?_set_ne (Ne.symm hka)] at hk
    exact (hR.2 k x hk hlt).kept (oq _ (by show B + k ≠ B + a; omega))
theorem zHR_push {B : Nat} {xa : Nat → Nat} {ca : Nat → ClassId} {D : va_G} {cl : List vw_C} {h : zH} {H H1 : Heap} {e' : zE} (hR : zHR B xa ca D cl h H) (hz : H1.size = H.size + 1) (oq : ∀ q : Nat, q < H.size → H1[q]? = H[q]?) (hat : va_at D cl (H.size, zc B xa ca e') H1) : zHR B xa ca D cl (h ++ [e']) H1 := by
  have hsz := hR.1
  refine ⟨by rw [hz, hR.1, List.length_append]; rfl, fun k x hk hlt => ?_⟩
  by_cases hl : k < h.length
  · rw [List.getElem?_append_left hl] at hk
    exact (hR.2 k x hk hlt).kept (oq _ (by show B + k < H.size; omega))
  · rw [List.getElem?_append_right (by omega)] at hk
    have hz1 : k - h.length < 1 := (List.getElem?_eq_some_iff.mp hk).1
    rw [show k - h.length = 0 by omega] at hk
    cases hk
    have : B + k = H.size := by omega
    rw [this]
    exact hat
/-- cells of which nothing is known -/
def zjunk : zE := (1000, .inr (.inr (.inr [])))
theorem zHR_junk {B : Nat} {xa : Nat → Nat} {ca : Nat → ClassId} {D : va_G} {cl : List vw_C} {h : zH} {H H1 : Heap} (n : Nat) (hR : zHR B xa ca D cl h H) (hz : H1.size = H.size + n) (oq : ∀ q : Nat, q < H.size → H1[q]? = H[q]?) : zHR B xa ca D cl (h ++ List.replicate n zjunk) H1 := by
  have hsz := hR.1
  refine ⟨by rw [hz, hR.1, List.length_append, List.length_replicate]; omega, fun k x hk hlt => ?_⟩
  by_cases hl : k < h.length
  · rw [List.getElem?_append_left hl] at hk
    exact (hR.2 k x hk hlt).kept (oq _ (by show B + k < H.size; omega))
  · rw [List.getElem?_append_right (by omega)] at hk
    have hx := List.eq_of_mem_replicate (List.mem_of_getElem? hk)
    rw [hx] at hlt
    exact absurd hlt (by decide)
theorem zsl_junk (h : zH) (n : Nat) : zsl (h ++ List.replicate n zjunk) = zsl h := by
  simp [zsl, zsz, zjunk]
theorem zP1 {D : va_G} {cl : List vw_C} {q : Nat × va_E} {H : Heap} (h : va_at D cl q H) : va_P D cl [q] H := by
  intro k x hk
  have hz : k < 1 := (List.getElem?_eq_some_iff.mp hk).1
  rw [show k = 0 by omega] at hk
  cases hk
  exact h
theorem zidx_in {i : Int32} {n : Nat} (h : zidx i n = true) : vp_in i n := by
  unfold zidx at h
  simp only [Bool.and_eq_true, Bool.not_eq_true', decide_eq_false_iff_not, decide_eq_true_eq] at h
  exact fun q => q.elim h.1 (fun q => Nat.not_le.mpr h.2 q)
theorem zidx_lt {i : Int32} {n : Nat} (h : zidx i n = true) : i.toNatClampNeg < n := by
  unfold zidx at h
  simp only [Bool.and_eq_true, decide_eq_true_eq] at h
  exact h.2
theorem zupd_i {l : List Int32} {n : Nat} {x : Int32} (hn : n < l.length) : updV (fun j => .int (l.getD j 0)) n (.int x) = fun j => Value.int ((l.set n x).getD j 0) := by
  funext j
  unfold updV
  by_cases h : j = n
  · subst h
    simp [List.getD_eq_getElem?_getD, List.getElem?_set, hn]
  · simp [List.getD_eq_getElem?_getD, List.getElem?_set, h, Ne.symm h]
theorem zupd_l {l : List Int64} {n : Nat} {x : Int64} (hn : n < l.length) : updV (fun j => .long (l.getD j 0)) n (.long x) = fun j => Value.long ((l.set n x).getD j 0) := by
  funext j
  unfold updV
  by_cases h : j = n
  · subst h
    simp [List.getD_eq_getElem?_getD, List.getElem?_set, hn]
  · simp [List.getD_eq_getElem?_getD, List.getElem?_set, h, Ne.symm h]
theorem zupd_q {B : Nat} {l : List (Option Nat)} {n : Nat} {x : Nat} (hn : n < l.length) : updV (fun j => va_rf ((l.getD j none).map (fun q => B + q))) n (.ref (B + x)) = fun j => va_rf (((l.set n (some x)).getD j none).map (fun q => B + q)) := by
  funext j
  unfold updV
  by_cases h : j = n
  · subst h
    simp [List.getD_eq_getElem?_getD, List.getElem?_set, hn, va_rf]
  · simp [List.getD_eq_getElem?_getD, List.getElem?_set, h, Ne.symm h]
def zA (B : Nat) : Nat → Prop := fun q => B ≤ q
def ztys (ca : Nat → ClassId) (P : String) : List (ClassId × FieldType) := [(ca 0, .int), (ca 1, .long), (ca 2, .boolean), (ca 3, .object P)]
/-- what the words say of a method's class c0, named own -/
def zTab (Ts : List Cond) (cl : List vw_C) (P : String) (X : zX) (c0 : Nat) (own : String) : Prop :=
  (∀ (ci : Nat) (q : vw_C), cl[ci]? = some q → (∀ w ∈ u_ws q.1 q.2.1 q.2.2, w ∈ Ts) ∧ (∀ k, k < q.2.2 → parseFieldDescriptor (q.2.1 k).2.2.1 = some (zty X ci k)) ∧ (∀ a, a < q.2.2 → ∀ b, b < q.2.2 → a ≠ b → (q.2.1 a).2.1 ≠ (q.2.1 b).2.1) ∧ (∀ k, k < q.2.2 → (q.2.1 k).2.2.2 = zfin X ci k) ∧ (ci = c0 → ∀ k, k < q.2.2 → (q.2.1 k).1 = own)) ∧
  (∀ (j ci k : Nat), zfld X c0 j = some (ci, k) → ∃ q : vw_C, cl[ci]? = some q ∧ k < q.2.2 ∧ Cond.fieldLink own j (q.2.1 k).1 (q.2.1 k).2.1 (q.2.1 k).2.2.1 ∈ Ts) ∧
  (∀ (j : Nat) (x : Int32), zkon X c0 j = some (.int x) → Cond.constant own j x ∈ Ts) ∧
  (∀ (j : Nat) (x : Int64), zkon X c0 j = some (.long x) → Cond.constantLong own j x ∈ Ts) ∧
  (∀ (j ci : Nat) (fs : List Value), znew X c0 j = some (ci, fs) → ∃ q : vw_C, cl[ci]? = some q ∧ Cond.classLink own j q.1 ∈ Ts ∧ Cond.instantiable q.1 q.2.2 ∈ Ts ∧ Cond.initialized q.1 ∈ Ts ∧ fs.length = q.2.2 ∧ (∀ k, k < q.2.2 → defaultValue (zty X ci k) = vp_V fs k) ∧ ∀ (B : Nat) (xa : Nat → Nat), fs.map (zcv B xa) = fs) ∧
  (Cond.arrayClass .int ∈ Ts ∧ Cond.arrayClass .long ∈ Ts ∧ Cond.arrayClass .boolean ∈ Ts) ∧
  (∀ j : Nat, zisP X c0 j = true → Cond.classLink own j P ∈ Ts) ∧
  ((∃ q : vw_C, cl[zpc X]? = some q ∧ q.1 = P) ∧ cl.length ≤ 1000)
/-- what a state says: the classes, the things outside -/
def zGS (Ts : List Cond) (B : Nat) (xa : Nat → Nat) (ca : Nat → ClassId) (D : va_G) (cl : List vw_C) (P : String) (X : zX) (own : Nat → String) (s : State) : Prop :=
  va_K D cl (ztys ca P) s ∧ va_AO P s ∧
  (∀ c j e : Nat, zkon X c j = some (.retAddr e) → ∃ tx : String, vk_R (own c) j tx (xa e) s) ∧
  (∀ (c j : Nat) (v : Value), zsta X c j = some v → ∃ C n d : String, va_Z C n d (zcv B xa v) (zA B) s s.heap ∧ Cond.fieldLink (own c) j C n d ∈ Ts) ∧
  (∀ (c j e : Nat) (v : Value), zxget X c j e = some v → ∃ o n d : String, va_OF o n d (zcv B xa v) (xa e) (zA B) s s.heap ∧ Cond.fieldLink (own c) j o n d ∈ Ts) ∧
  (∀ (e : Nat) (b : Bool) (l : List Int32), zxarr X e = some (b, l) → va_T (if b = true then .byte else .int) (xa e) l.length (fun j => .int (l.getD j 0)) (zA B) s s.heap) ∧
  (∀ (e c : Nat), zxcl X e = some c → va_O (own c) (xa e) (zA B) s s.heap)
section ZS
variable {p : Program} {l : Launch} {e : Env} {R : Room} {s : State} {m : MethodId} {args : Array Value} {below : List Frame} {meth : Method} {c : Code} {H : Heap} {locs : List Loc} {cells slots : Nat} {Q : State → Prop}
variable {cc : ByteArray} {B : Nat} {xa : Nat → Nat} {ca : Nat → ClassId} {D : va_G} {cl : List vw_C} {tys : List (ClassId × FieldType)}
/-- a field is written -/
theorem zput_ok {own C : String} {T : u_T} {N ci index pc a : Nat} {Ts : List Cond} {LS : Array Slot} {rest : List Value} (hx : p.tables.exec = Jvm.exec) (hb : c.code = cc) (hts : ∀ w ∈ Ts, w.before args s = true) (hin : ∀ w ∈ u_ws C T N, w ∈ Ts) (ty0 : Nat → FieldType) (hty : ∀ k, k < N → parseFieldDescriptor (T k).2.2.1 = some (ty0 k)) (hnm : ∀ a, a < N → ∀ b, b < N → a ≠ b → (T a).2.1 ≠ (T b).2.1) (hown : s.vm.findClass own = some m.cls) (hK : va_K D cl tys s) {fs : List Value} (hat : va_at D cl (a, .inr (ci, fs)) H) (hc : cl[ci]? = some (C, T, N)) {k : Nat} (hk : k < N) (hlink : (Cond.fieldLink own index (T k).1 (T k).2.1 (T k).2.2.1).before args s = true)
    (hfin : (T k).2.2.2 = false ∨ ((T k).2.2.2 = true ∧ meth.name = "<init>" ∧ (T k).1 = own)) {v : Value} (hn : narrow (ty0 k) v = v) (hfit : fits (ty0 k) v = true) (hl : k < fs.length) (hdg : decode cc pc = .ok (.putfield index, 3))
    (kk : ∀ (H1 : Heap) (j : Nat), va_at D cl (a, .inr (ci, fs.set k v)) H1 → H1.size = H.size → (∀ q : Nat, q ≠ a → H1[q]? = H[q]?) → W p l e R s m args below meth c H1 (locs ++ [⟨a, j⟩]) cells slots Q (F0 m (pc + 3) LS rest)) : W p l e R s m args below meth c H locs cells slots Q (F0 m pc LS (v :: .ref a :: rest)) := by
  have hap := va_apart (own := own) hts hin ty0 hty hnm hK hc
  obtain ⟨r, h1, cell, q1, q2, q3, q4⟩ := hat
  have hr : r = (C, T, N) := Option.some.inj (h1.symm.trans hc)
  subst hr
  obtain ⟨hS, hfc, kC, hkC, hkind⟩ := hK.1 ci _ hc
  obtain ⟨cf, kf, fi, f, hi, hsl⟩ := hS k hk
  have hlay := hts _ (hin _ (u_in_lay hk))
  have hst := (u_facts hfc hkC (u_lays hts hin hk) hi).1
  have fin : ∀ H1 : Heap, H1[a]? = some (cell.setSlot f.slot v) → va_at D cl (a, .inr (ci, fs.set k v)) H1 := by
    intro H1 e1
    rw [hsl] at e1
    exact ⟨_, hc, t_OB.to (V := updV (vp_V fs) k v) ⟨_, e1, q2, q3, t_set q4 hap hk v⟩ (fun j _ => vp_updV_set hl v j)⟩
  rcases hfin with hf | ⟨hf, hin2, hdecl⟩
  · unfold u_lay at hlay
    rw [if_neg (by rw [hf]; decide)] at hlay
    have h6 := u_store hfc hkC hkind hlay hi (hty k hk) hn hfit
    exact W.putK hx hb (f := f) ⟨hown, hlink, ⟨_, _, _, hi⟩, hst⟩ (by rw [q2]; exact h6) q1 q3 (by rw [hsl]; exact k2_hasslot (q4 k hk)) rfl rfl hdg fun H' e1 e2 e3 => kk H' _ (fin H' e1) e2 e3
  · unfold u_lay at hlay
    rw [if_pos hf] at hlay
    have hcf : m.cls = cf := by
      obtain ⟨_, _, c', _, _, _, -, -, hf', -, -, -, hown2, -⟩ := Cond.laysFinal_spec hlay
      have e1 : c' = cf := by have := hi.symm.trans hf'; simp at this; exact this.1.symm
      rw [hdecl] at hown2
      rw [← e1]; exact Option.some.inj (hown.symm.trans hown2)
    have h6 := u_fits hfc hkC hkind (Or.inr hlay) hi (hty k hk) hn hfit
    exact W.putFinK hx hb hown hlink hi hst hcf hin2 (by rw [q2]; exact h6) q1 q3 (by rw [hsl]; exact k2_hasslot (q4 k hk)) rfl rfl hdg fun H' e1 e2 e3 => kk H' _ (fin H' e1) e2 e3
end ZS
end
section
theorem zdry_n {ty : FieldType} {v : Value} {B : Nat} {xa : Nat → Nat} (h : narrow ty (zdry v) = zdry v) : narrow ty (zcv B xa v) = zcv B xa v := by
  cases v <;> first | exact h | (cases ty <;> rfl)
theorem zdry_f {ty : FieldType} {v : Value} {B : Nat} {xa : Nat → Nat} (h : fits ty (zdry v) = true) : fits ty (zcv B xa v) = true := by
  cases v <;> first | exact h | (cases ty <;> exact h)
theorem zputs_of {X : zX} {ini : Bool} {c ci k : Nat} {v : Value} (h : zputs X ini c ci k v = true) : (zfin X ci k = false ∨ (ini = true ∧ ci = c)) ∧ narrow (zty X ci k) (zdry v) = zdry v ∧ fits (zty X ci k) (zdry v) = true := by
  unfold zputs at h
  simp only [Bool.and_eq_true, Bool.or_eq_true, Bool.not_eq_true', decide_eq_true_eq, beq_iff_eq] at h
  exact ⟨h.1.1, h.1.2, h.2⟩
theorem zmap_set {B : Nat} {xa : Nat → Nat} (fs : List Value) (k : Nat) (v : Value) : (fs.map (zcv B xa)).set k (zcv B xa v) = (fs.set k v).map (zcv B xa) := by
  rw [List.map_set]
section ZS
variable {p : Program} {l : Launch} {e : Env} {R : Room} {s : State} {m : MethodId} {args : Array Value} {below : List Frame} {meth : Method} {c : Code} {H : Heap} {locs : List Loc} {Q : State → Prop}
variable {cc : ByteArray} {B : Nat} {xa : Nat → Nat} {ca : Nat → ClassId} {D : va_G} {cl : List vw_C}
set_option maxHeartbeats 8000000 in
set_option maxRecDepth 100000 in
theorem zstH_ok {Ts : List Cond} {P : String} {X : zX} {own : Nat → String} {ini : Bool} {c0 cells slots : Nat} {i : Instr} {len pc : Nat} {ls : zL} {st : List Value} {h : zH} {pc' : Nat} {ls' : zL} {st' : List Value} {h' : zH} {LS : Array Slot} (hx : p.tables.exec = Jvm.exec) (hb : c.code = cc) (hd : decode cc pc = .ok (i, len)) (hlen : zlok i len = true)
    (hts : ∀ w ∈ Ts, w.before args s = true) (hown : s.vm.findClass (own c0) = some m.cls) (hT : zTab Ts cl P X c0 (own c0)) (hG : zGS Ts B xa ca D cl P X own s) (hini : ini = true → meth.name = "<init>") (hR : zHR B xa ca D cl h H) (hS : va_S (zA B) s.heap H locs) (hB : B ≤ s.heap.size)
    (hroom : cells + (h'.length - h.length) ≤ R.cells ∧ slots + (zsl h' - zsl h) ≤ R.slots) (hs : zstH X ini c0 i pc ls st h = some (pc', ls', st', h'))
    (k : ∀ (H' : Heap) (locs' : List Loc), zHR B xa ca D cl h' H' → va_S (zA B) s.heap H' locs' → W p l e R s m args below meth c H' locs' (cells + (h'.length - h.length)) (slots + (zsl h' - zsl h)) Q (F0 m pc' LS (st'.map (zcv B xa)))) : (W p l e R s m args below meth c H locs cells slots Q (F0 m pc LS (st.map (zcv B xa)))) ∧ ls' = ls := by
  obtain ⟨hK, hAO, hGs, hGz, hGx, hGa, -⟩ := hG
  have hA : ∀ q : Nat, s.heap.size ≤ q → zA B q := fun q hq => Nat.le_trans hB hq
  have hci9 : ∀ {ci : Nat} {q : vw_C}, cl[ci]? = some q → ci < 1000 := fun hq => Nat.lt_of_lt_of_le (List.getElem?_eq_some_iff.mp hq).1 hT.2.2.2.2.2.2.2.2
  have ksame : h' = h → ∀ (H' : Heap) (locs' : List Loc), zHR B xa ca D cl h' H' → va_S (zA B) s.heap H' locs' → W p l e R s m args below meth c H' locs' cells slots Q (F0 m pc' LS (st'.map (zcv B xa))) := fun e H' locs' a b => by
    have k9 := k H' locs' a b
    subst e
    rwa [Nat.sub_self, Nat.sub_self, Nat.add_zero, Nat.add_zero] at k9
  cases i with
  | getfield j =>
    obtain rfl : len = 3 := eq_of_beq hlen
    dsimp only [zstH] at hs
    split at hs
    · split at hs
      · next ci k0 ci' fs hf ha =>
        split at hs
        · next v hv =>
          split at hs
          · next hci =>
            subst hci
            cases hs
            obtain ⟨⟨C, T, N⟩, hc, hk, hw⟩ := hT.2.1 _ _ _ hf
            obtain ⟨h1, h2, h3, h4, h5⟩ := hT.1 _ _ hc
            have hat := hR.2 _ _ ha (hci9 hc)
            exact ⟨va_get (D := D) (T := T) (N := N) (C := C) hx hb hts h1 hown hK (zP1 hat) 0 rfl hc k0 hk (hts _ hw) (fun _ h9 => h9) (v := zcv B xa v) (by rw [List.getElem?_map, hv]; rfl) hd (ksame rfl H locs hR hS), rfl⟩
          · cases hs
        · cases hs
      · cases hs
    · split at hs
      · next v hv =>
        cases hs
        obtain ⟨o, n, d, h1, h2⟩ := hGx _ _ _ _ hv
        exact ⟨vk_getf hx hb h1 hS hown (hts _ h2) (fun _ h9 => h9) hd (ksame rfl H locs hR hS), rfl⟩
      · cases hs
    · cases hs
  | putfield j =>
    obtain rfl : len = 3 := eq_of_beq hlen
    dsimp only [zstH] at hs
    split at hs
    · next v a r =>
      split at hs
      · next ci k0 ci' fs hf ha =>
        split at hs
        · next hcond =>
          obtain ⟨hci, hlf, hp⟩ := hcond
          subst hci
          cases hs
          obtain ⟨⟨C, T, N⟩, hc, hk, hw⟩ := hT.2.1 _ _ _ hf
          obtain ⟨h1, h2, h3, h4, h5⟩ := hT.1 _ _ hc
          have hat := hR.2 _ _ ha (hci9 hc)
          obtain ⟨p1, p2, p3⟩ := zputs_of hp
          rw [List.length_set, zsl_set ha (by simp [zsz]), Nat.sub_self, Nat.sub_self, Nat.add_zero, Nat.add_zero] at k
          refine ⟨zput_ok (T := T) (N := N) (C := C) hx hb hts h1 (fun k => zty X ci' k) h2 h3 hown hK hat hc hk (hts _ hw) ?_ (zdry_n p2) (zdry_f p3) (by rw [List.length_map]; exact hlf) hd ?_, rfl⟩
          · rcases p1 with q | ⟨q1, q2⟩
            · exact Or.inl ((h4 k0 hk).trans q)
            · cases hz : (T k0).2.2.2 with
              | false => exact Or.inl rfl
              | true => exact Or.inr ⟨rfl, hini q1, h5 q2 k0 hk⟩
          · intro H1 j9 w1 w2 w3
            refine k H1 _ (zHR_set hR w2 w3 ?_) (hS.put w2 w3 (Nat.le_add_right B a))
            rw [zmap_set] at w1
            exact w1
        · cases hs
      · cases hs
    · cases hs
  | getstatic j =>
    obtain rfl : len = 3 := eq_of_beq hlen
    dsimp only [zstH] at hs
    split at hs
    · next v hv =>
      cases hs
      obtain ⟨C, n, d, h1, h2⟩ := hGz _ _ _ hv
      exact ⟨va_gets hx hb h1 hS hown (hts _ h2) (fun _ h9 => h9) hd (ksame rfl H locs hR hS), rfl⟩
    · cases hs
  | ldc j =>
    obtain rfl : len = 2 := eq_of_beq hlen
    dsimp only [zstH] at hs
    split at hs
    · next x hv =>
      cases hs
      exact ⟨lv_ldc hx hb hown (hts _ (hT.2.2.1 _ _ hv)) hd (ksame rfl H locs hR hS), rfl⟩
    · next x hv =>
      cases hs
      obtain ⟨tx, h1⟩ := hGs _ _ _ hv
      exact ⟨va_ldcS hx hb hown h1 hd (ksame rfl H locs hR hS), rfl⟩
    · cases hs
  | ldc_w j =>
    obtain rfl : len = 3 := eq_of_beq hlen
    dsimp only [zstH] at hs
    split at hs
    · next x hv =>
      cases hs
      exact ⟨lv_ldcw hx hb hown (hts _ (hT.2.2.1 _ _ hv)) hd (ksame rfl H locs hR hS), rfl⟩
    · cases hs
  | ldc2_w j =>
    obtain rfl : len = 3 := eq_of_beq hlen
    dsimp only [zstH] at hs
    split at hs
    · next x hv =>
      cases hs
      exact ⟨lv_ldc2 hx hb hown (hts _ (hT.2.2.2.1 _ _ hv)) hd (ksame rfl H locs hR hS), rfl⟩
    · cases hs
  | iaload =>
    obtain rfl : len = 1 := eq_of_beq hlen
    dsimp only [zstH] at hs
    split at hs
    · split at hs
      · next l9 ha =>
        split at hs
        · next hi =>
          cases hs
          exact ⟨va_iald hx hb hK (zP1 (hR.2 _ _ ha (show (0 : Nat) < 1000 by decide))) 0 0 rfl rfl (zidx_in hi) hd (ksame rfl H locs hR hS), rfl⟩
        · cases hs
      · cases hs
    · split at hs
      · next l9 ha =>
        split at hs
        · next hi =>
          cases hs
          obtain ⟨scr, g1, g2, g3, g4, g5, g6, g7⟩ := hGa _ _ _ ha
          exact ⟨W.iald (v := .int (l9.getD _ 0)) hx hb (by rw [hS.2.1 _ (Array.getElem?_eq_some_iff.mp g1).1 g7]; exact g1) g2 g3 (fun q => zidx_in hi (q.imp id (fun q => Nat.le_trans g4 q))) (g6 _ (zidx_lt hi)) rfl rfl hd (ksame rfl H locs hR hS), rfl⟩
        · cases hs
      · cases hs
    · cases hs
  | baload =>
    obtain rfl : len = 1 := eq_of_beq hlen
    dsimp only [zstH] at hs
    split at hs
    · split at hs
      · next l9 ha =>
        split at hs
        · next hi =>
          cases hs
          exact ⟨va_zald hx hb hK (zP1 (hR.2 _ _ ha (show (2 : Nat) < 1000 by decide))) 0 2 rfl rfl (zidx_in hi) hd (ksame rfl H locs hR hS), rfl⟩
        · cases hs
      · cases hs
    · split at hs
      · next l9 ha =>
        split at hs
        · next hi =>
          cases hs
          obtain ⟨scr, g1, g2, g3, g4, g5, g6, g7⟩ := hGa _ _ _ ha
          exact ⟨W.bald (v := .int (l9.getD _ 0)) hx hb (by rw [hS.2.1 _ (Array.getElem?_eq_some_iff.mp g1).1 g7]; exact g1) g2 g3 (fun q => zidx_in hi (q.imp id (fun q => Nat.le_trans g4 q))) (g6 _ (zidx_lt hi)) rfl rfl hd (ksame rfl H locs hR hS), rfl⟩
        · cases hs
      · cases hs
    · cases hs
  | laload =>
    obtain rfl : len = 1 := eq_of_beq hlen
    dsimp only [zstH] at hs
    split at hs
    · split at hs
      · next l9 ha =>
        split at hs
        · next hi =>
          cases hs
          exact ⟨va_lald hx hb hK (zP1 (hR.2 _ _ ha (show (1 : Nat) < 1000 by decide))) 0 1 rfl rfl (zidx_in hi) hd (ksame rfl H locs hR hS), rfl⟩
        · cases hs
      · cases hs
    · cases hs
  | aaload =>
    obtain rfl : len = 1 := eq_of_beq hlen
    dsimp only [zstH] at hs
    split at hs
    · split at hs
      · next l9 ha =>
        split at hs
        · next hi =>
          cases hs
          refine ⟨va_aldq hx hb hK (zP1 (hR.2 _ _ ha (show (3 : Nat) < 1000 by decide))) 0 3 rfl rfl (zidx_in hi) hd ?_, rfl⟩
          have k9 := ksame rfl H locs hR hS
          cases hz : l9.getD (Int32.toNatClampNeg _) none with
          | none => rw [hz] at k9; exact k9
          | some z => rw [hz] at k9; exact k9
        · cases hs
      · cases hs
    · cases hs
  | iastore =>
    obtain rfl : len = 1 := eq_of_beq hlen
    dsimp only [zstH] at hs
    split at hs
    · next x i a r =>
      split at hs
      · next l9 ha =>
        split at hs
        · next hi =>
          cases hs
          have hat := hR.2 _ _ ha (show (0 : Nat) < 1000 by decide)
          rw [List.length_set, zsl_set ha (by simp [zsz]), Nat.sub_self, Nat.sub_self, Nat.add_zero, Nat.add_zero] at k
          refine ⟨W.iast hx hb hat ((hK.2 0 _ rfl).1 l9.length (fun j => .int (l9.getD j 0))) (fun q => by cases q) (by show ¬ (i < 0 ∨ (arrV _ _ _).slots.size ≤ _); rw [arrV_size]; exact zidx_in hi) rfl rfl hd fun H1 e1 z1 oq => ?_, rfl⟩
          refine k H1 _ (zHR_set hR z1 oq ?_) (hS.put z1 oq (Nat.le_add_right B a))
          show H1[B + a]? = some (vp_cell _ _)
          rw [e1]
          dsimp only [vp_cell]
          rw [arrV_store, List.length_set]
          rw [zupd_i (zidx_lt hi)]
        · cases hs
      · cases hs
    · cases hs
  | bastore =>
    obtain rfl : len = 1 := eq_of_beq hlen
    dsimp only [zstH] at hs
    split at hs
    · next x i a r =>
      split at hs
      · next l9 ha =>
        split at hs
        · next hi =>
          cases hs
          have hat := hR.2 _ _ ha (show (2 : Nat) < 1000 by decide)
          rw [List.length_set, zsl_set ha (by simp [zsz]), Nat.sub_self, Nat.sub_self, Nat.add_zero, Nat.add_zero] at k
          refine ⟨W.zast hx hb hat ((hK.2 2 _ rfl).1 l9.length (fun j => .int (l9.getD j 0))) (fun q => by cases q) (by show ¬ (i < 0 ∨ (arrV _ _ _).slots.size ≤ _); rw [arrV_size]; exact zidx_in hi) rfl rfl hd fun H1 e1 z1 oq => ?_, rfl⟩
          refine k H1 _ (zHR_set hR z1 oq ?_) (hS.put z1 oq (Nat.le_add_right B a))
          show H1[B + a]? = some (vp_cell _ _)
          rw [e1]
          dsimp only [vp_cell]
          rw [arrV_store, List.length_set]
          exact congrArg (fun f => some (arrV _ _ f)) (zupd_i (zidx_lt hi))
        · cases hs
      · cases hs
    · cases hs
  | lastore =>
    obtain rfl : len = 1 := eq_of_beq hlen
    dsimp only [zstH] at hs
    split at hs
    · next x i a r =>
      split at hs
      · next l9 ha =>
        split at hs
        · next hi =>
          cases hs
          have hat := hR.2 _ _ ha (show (1 : Nat) < 1000 by decide)
          rw [List.length_set, zsl_set ha (by simp [zsz]), Nat.sub_self, Nat.sub_self, Nat.add_zero, Nat.add_zero] at k
          refine ⟨W.last hx hb hat ((hK.2 1 _ rfl).1 l9.length (fun j => .long (l9.getD j 0))) (fun q => by cases q) (by show ¬ (i < 0 ∨ (arrV _ _ _).slots.size ≤ _); rw [arrV_size]; exact zidx_in hi) rfl rfl hd fun H1 e1 z1 oq => ?_, rfl⟩
          refine k H1 _ (zHR_set hR z1 oq ?_) (hS.put z1 oq (Nat.le_add_right B a))
          show H1[B + a]? = some (vp_cell _ _)
          rw [e1]
          dsimp only [vp_cell]
          rw [arrV_store, List.length_set]
          rw [zupd_l (zidx_lt hi)]
        · cases hs
      · cases hs
    · cases hs
  | aastore =>
    obtain rfl : len = 1 := eq_of_beq hlen
    dsimp only [zstH] at hs
    split at hs
    · next v i a r =>
      split at hs
      · next l9 ci fs9 ha hv =>
        split at hs
        · next hi9 =>
          obtain ⟨hi, hci⟩ := hi9
          subst hci
          cases hs
          have hat := hR.2 _ _ ha (show (3 : Nat) < 1000 by decide)
          obtain ⟨⟨C, T, N⟩, hc, hP⟩ := hT.2.2.2.2.2.2.2.1
          obtain ⟨r', hr', cellV, g1, g2, g3, -⟩ := hR.2 _ _ hv (hci9 hc)
          subst hP
          have hcls := (hK.1 _ _ hc).2
          obtain ⟨kA, comp, k1, k2, k3, -⟩ := (hK.2 3 _ rfl).2
          have hcomp : comp = D.1 (zpc X) := Option.some.inj (k3.symm.trans hcls.1)
          subst hcomp
          obtain ⟨kC, hkC, -⟩ := hcls.2
          rw [List.length_set, zsl_set ha (by simp [zsz]), Nat.sub_self, Nat.sub_self, Nat.add_zero, Nat.add_zero] at k
          have hlt := zidx_lt hi
          have hin := zidx_in hi
          refine ⟨W.aast hx hb hat (fun q h => by cases h) (fun h => by cases h) k1 k2 rfl hkC ⟨fun q => hin (Or.inl q), by show _ < (arrV _ _ _).slots.size; rw [arrV_size]; exact hlt⟩ g1 (fun q h => by rw [g3] at h; cases h) (by rw [g2]; exact hkC) (by rw [g2]; exact va_assign hcls) rfl rfl hd fun H1 e1 z1 oq => ?_, rfl⟩
          refine k H1 _ (zHR_set hR z1 oq ?_) (hS.put z1 oq (Nat.le_add_right B a))
          show H1[B + a]? = some (vp_cell _ _)
          rw [e1]
          dsimp only [vp_cell]
          rw [arrV_store, List.length_set]
          exact congrArg (fun f => some (arrV _ _ f)) (zupd_q hlt)
        · cases hs
      · cases hs
    · cases hs
  | arraylength =>
    obtain rfl : len = 1 := eq_of_beq hlen
    dsimp only [zstH] at hs
    split at hs
    · split at hs
      · next l9 ha =>
        cases hs
        exact ⟨va_alen hx hb hK (zP1 (hR.2 _ _ ha (show (0 : Nat) < 1000 by decide))) 0 0 rfl rfl rfl hd (ksame rfl H locs hR hS), rfl⟩
      · next l9 ha =>
        cases hs
        exact ⟨va_alen hx hb hK (zP1 (hR.2 _ _ ha (show (2 : Nat) < 1000 by decide))) 0 2 rfl rfl rfl hd (ksame rfl H locs hR hS), rfl⟩
      · next l9 ha =>
        cases hs
        exact ⟨va_alen hx hb hK (zP1 (hR.2 _ _ ha (show (1 : Nat) < 1000 by decide))) 0 1 rfl rfl rfl hd (ksame rfl H locs hR hS), rfl⟩
      · next l9 ha =>
        cases hs
        exact ⟨va_alen hx hb hK (zP1 (hR.2 _ _ ha (show (3 : Nat) < 1000 by decide))) 0 3 rfl rfl rfl hd (ksame rfl H locs hR hS), rfl⟩
      · cases hs
    · split at hs
      · next b9 l9 ha =>
        cases hs
        obtain ⟨scr, g1, g2, g3, g4, g5, g6, g7⟩ := hGa _ _ _ ha
        exact ⟨W.alen hx hb (by rw [hS.2.1 _ (Array.getElem?_eq_some_iff.mp g1).1 g7]; exact g1) g2 g5 rfl rfl hd (ksame rfl H locs hR hS), rfl⟩
      · cases hs
    · cases hs
  | new j =>
    obtain rfl : len = 3 := eq_of_beq hlen
    dsimp only [zstH] at hs
    split at hs
    · next ci fs hv =>
      cases hs
      obtain ⟨⟨C, T, N⟩, hc, hw1, hw2, hw3, hfl, hdv, hfm⟩ := hT.2.2.2.2.1 _ _ _ hv
      obtain ⟨h1, h2, h3, h4, h5⟩ := hT.1 _ _ hc
      have hKn := hK.1 ci _ hc
      have hsz := hR.1
      have hps := zsl_push h (ci, .inr (.inr (.inr fs)))
      have hz9 : zsz (ci, .inr (.inr (.inr fs))) = N := hfl
      rw [hz9] at hps
      rw [List.length_append, hps] at hroom k
      simp only [List.length_cons, List.length_nil] at hroom k
      refine ⟨W.newcK hx hb hown (hts _ hw1) (hts _ hw2) (hts _ hw3) rfl hd (by omega) (by show _ + N ≤ _; omega) hKn.2.1 rfl fun H1 kC hkC e1 z1 o1 => ?_, rfl⟩
      have k9 := k H1 locs (zHR_push hR z1 o1 ?_) ⟨Nat.le_trans hS.1 (by omega), fun x g1 g2 => (o1 x (Nat.lt_of_lt_of_le g1 hS.1)).trans (hS.2.1 x g1 g2), hS.2.2⟩
      · refine W.cs (cells' := cells + (h.length + (0 + 1) - h.length)) (slots' := slots + (zsl h + N - zsl h)) (by omega) (by show _ + N = _; omega) ?_
        show W _ _ _ _ _ _ _ _ _ _ _ _ _ _ _ (F0 m (pc + 3) LS (.ref H.size :: _))
        rw [hsz]
        exact k9
      · have hb9 := u_born (fun k => zty X ci k) hts h1 hKn hkC e1 h2
        refine ⟨_, hc, ?_⟩
        have hb8 := hb9.to (V' := vp_V fs) hdv
        show t_OB _ _ _ _ _ (vp_V (fs.map (zcv B xa)))
        rw [hfm]
        exact hb8
    · cases hs
  | newarray aty =>
    obtain rfl : len = 2 := eq_of_beq hlen
    cases aty with
    | int =>
      dsimp only [zstH] at hs
      split at hs
      · next n r =>
        split at hs
        · cases hs
        · next hn =>
          cases hs
          have hsz := hR.1
          have hps := zsl_push h (0, .inl (List.replicate n.toNatClampNeg 0))
          have hz9 : zsz (0, .inl (List.replicate n.toNatClampNeg 0)) = n.toNatClampNeg := List.length_replicate
          rw [hz9] at hps
          rw [List.length_append, hps] at hroom k
          simp only [List.length_cons, List.length_nil] at hroom k
          refine ⟨va_newaK hx hb (atype := .int) (hts _ hT.2.2.2.2.2.1.1) rfl hd rfl (fun q => hn (Or.inl q)) rfl (by show _ * 4 ≤ _; have := fun q => hn (Or.inr q); omega) (by omega) (by omega) rfl fun H1 cA e1 z1 o1 hAr hNm => ?_, rfl⟩
          have hcA : cA = ca 0 := Option.some.inj (hNm.symm.trans (hK.2 0 _ rfl).2)
          subst hcA
          have k9 := k H1 locs (zHR_push hR z1 o1 ?_) ⟨Nat.le_trans hS.1 (by omega), fun x g1 g2 => (o1 x (Nat.lt_of_lt_of_le g1 hS.1)).trans (hS.2.1 x g1 g2), hS.2.2⟩
          · refine W.cs (cells' := cells + (h.length + (0 + 1) - h.length)) (slots' := slots + (zsl h + n.toNatClampNeg - zsl h)) (by omega) (by omega) ?_
            show W _ _ _ _ _ _ _ _ _ _ _ _ _ _ _ (F0 m (pc + 2) LS (.ref H.size :: _))
            rw [hsz]
            exact k9
          · show H1[H.size]? = some (vp_cell _ _)
            rw [e1]
            dsimp only [vp_cell]
            rw [List.length_replicate]
            refine congrArg (fun f => some (arrV _ _ f)) ?_
            funext j
            simp [List.getD_eq_getElem?_getD, List.getElem?_replicate, newarray.typeOf, defaultValue]
            try (split <;> rfl)
      · cases hs
    | boolean =>
      dsimp only [zstH] at hs
      split at hs
      · next n r =>
        split at hs
        · cases hs
        · next hn =>
          cases hs
          have hsz := hR.1
          have hps := zsl_push h (2, .inl (List.replicate n.toNatClampNeg 0))
          have hz9 : zsz (2, .inl (List.replicate n.toNatClampNeg 0)) = n.toNatClampNeg := List.length_replicate
          rw [hz9] at hps
          rw [List.length_append, hps] at hroom k
          simp only [List.length_cons, List.length_nil] at hroom k
          refine ⟨va_newaK hx hb (atype := .boolean) (hts _ hT.2.2.2.2.2.1.2.2) rfl hd rfl (fun q => hn (Or.inl q)) rfl (by show _ * 1 ≤ _; have := fun q => hn (Or.inr q); omega) (by omega) (by omega) rfl fun H1 cA e1 z1 o1 hAr hNm => ?_, rfl⟩
          have hcA : cA = ca 2 := Option.some.inj (hNm.symm.trans (hK.2 2 _ rfl).2)
          subst hcA
          have k9 := k H1 locs (zHR_push hR z1 o1 ?_) ⟨Nat.le_trans hS.1 (by omega), fun x g1 g2 => (o1 x (Nat.lt_of_lt_of_le g1 hS.1)).trans (hS.2.1 x g1 g2), hS.2.2⟩
          · refine W.cs (cells' := cells + (h.length + (0 + 1) - h.length)) (slots' := slots + (zsl h + n.toNatClampNeg - zsl h)) (by omega) (by omega) ?_
            show W _ _ _ _ _ _ _ _ _ _ _ _ _ _ _ (F0 m (pc + 2) LS (.ref H.size :: _))
            rw [hsz]
            exact k9
          · show H1[H.size]? = some (vp_cell _ _)
            rw [e1]
            dsimp only [vp_cell]
            rw [List.length_replicate]
            refine congrArg (fun f => some (arrV _ _ f)) ?_
            funext j
            simp [List.getD_eq_getElem?_getD, List.getElem?_replicate, newarray.typeOf, defaultValue]
            try (split <;> rfl)
      · cases hs
    | long =>
      dsimp only [zstH] at hs
      split at hs
      · next n r =>
        split at hs
        · cases hs
        · next hn =>
          cases hs
          have hsz := hR.1
          have hps := zsl_push h (1, .inr <| .inl <| (List.replicate n.toNatClampNeg 0))
          have hz9 : zsz (1, .inr <| .inl <| (List.replicate n.toNatClampNeg 0)) = n.toNatClampNeg := List.length_replicate
          rw [hz9] at hps
          rw [List.length_append, hps] at hroom k
          simp only [List.length_cons, List.length_nil] at hroom k
          refine ⟨va_newaK hx hb (atype := .long) (hts _ hT.2.2.2.2.2.1.2.1) rfl hd rfl (fun q => hn (Or.inl q)) rfl (by show _ * 8 ≤ _; have := fun q => hn (Or.inr q); omega) (by omega) (by omega) rfl fun H1 cA e1 z1 o1 hAr hNm => ?_, rfl⟩
          have hcA : cA = ca 1 := Option.some.inj (hNm.symm.trans (hK.2 1 _ rfl).2)
          subst hcA
          have k9 := k H1 locs (zHR_push hR z1 o1 ?_) ⟨Nat.le_trans hS.1 (by omega), fun x g1 g2 => (o1 x (Nat.lt_of_lt_of_le g1 hS.1)).trans (hS.2.1 x g1 g2), hS.2.2⟩
          · refine W.cs (cells' := cells + (h.length + (0 + 1) - h.length)) (slots' := slots + (zsl h + n.toNatClampNeg - zsl h)) (by omega) (by omega) ?_
            show W _ _ _ _ _ _ _ _ _ _ _ _ _ _ _ (F0 m (pc + 2) LS (.ref H.size :: _))
            rw [hsz]
            exact k9
          · show H1[H.size]? = some (vp_cell _ _)
            rw [e1]
            dsimp only [vp_cell]
            rw [List.length_replicate]
            refine congrArg (fun f => some (arrV _ _ f)) ?_
            funext j
            simp [List.getD_eq_getElem?_getD, List.getElem?_replicate, newarray.typeOf, defaultValue]
            try (split <;> rfl)
      · cases hs
    | _ => exact nomatch (show (none : Option (Nat × zL × List Value × zH)) = some _ from hs)
  | anewarray j =>
    obtain rfl : len = 3 := eq_of_beq hlen
    dsimp only [zstH] at hs
    split at hs
    · next n r =>
      split at hs
      · cases hs
      · next hn =>
        cases hs
        have hsz := hR.1
        have hps := zsl_push h (3, .inr (.inr (.inl (List.replicate n.toNatClampNeg none))))
        have hz9 : zsz (3, .inr (.inr (.inl (List.replicate n.toNatClampNeg none)))) = n.toNatClampNeg := List.length_replicate
        rw [hz9] at hps
        rw [List.length_append, hps] at hroom k
        simp only [List.length_cons, List.length_nil] at hroom k
        have hq : zisP X c0 j = true := by
          cases hz : zisP X c0 j with
          | true => rfl
          | false => exact absurd (Or.inr (Or.inr hz)) hn
        refine ⟨W.anew hx hb hown (hts _ (hT.2.2.2.2.2.2.1 _ hq)) (va_AO.use hAO) rfl hd rfl (fun q => hn (Or.inl q)) (by have := fun q => hn (Or.inr (Or.inl q)); omega) (by omega) (by omega) fun cA kA comp f1 f2 f3 f4 => ?_, rfl⟩
        obtain ⟨kA', comp', k1, k2, k3, k4⟩ := (hK.2 3 _ rfl).2
        have hcA : cA = ca 3 := Option.some.inj (f1.symm.trans k4)
        subst hcA
        generalize hH1 : H.push ({ cls := ca 3, slots := Array.replicate n.toNatClampNeg .null, vm := .none } : Cell) = H1
        have z1 : H1.size = H.size + 1 := by rw [← hH1, Array.size_push]
        have e1 : H1[H.size]? = some (arrV (ca 3) n.toNatClampNeg (fun _ => .null)) := by rw [← hH1, Array.getElem?_push_size, ← arrV_new]
        have o1 : ∀ q : Nat, q < H.size → H1[q]? = H[q]? := fun q hq => by rw [← hH1, Array.getElem?_push, if_neg (Nat.ne_of_lt hq)]
        have k9 := k H1 locs (zHR_push hR z1 o1 ?_) ⟨Nat.le_trans hS.1 (by omega), fun x g1 g2 => (o1 x (Nat.lt_of_lt_of_le g1 hS.1)).trans (hS.2.1 x g1 g2), hS.2.2⟩
        · refine W.cs (cells' := cells + (h.length + (0 + 1) - h.length)) (slots' := slots + (zsl h + n.toNatClampNeg - zsl h)) (by omega) (by omega) ?_
          show W _ _ _ _ _ _ _ _ _ _ _ _ _ _ _ (F0 m (pc + 3) LS (.ref H.size :: _))
          rw [hsz]
          exact k9
        · show H1[H.size]? = some (vp_cell _ _)
          rw [e1]
          dsimp only [vp_cell]
          rw [List.length_replicate]
          refine congrArg (fun f => some (arrV _ _ f)) ?_
          funext j
          by_cases hj : j < n.toNatClampNeg <;> simp [List.getD_eq_getElem?_getD, List.getElem?_replicate, va_rf, hj]
    · cases hs
  | _ => exact nomatch (show (none : Option (Nat × zL × List Value × zH)) = some _ from hs)
end ZS
end
section
/-! Runs of methods on our machine. A table of calls: (own class, index) gives kind (0 Object.<init>, 1 virtual, 2 static, 3 a constructor, 4 a nest mate's, 5 .. 10 Math's max, min, abs of ints, of longs), method, how many arguments. -/
abbrev zI : Type := Nat → Nat → Option (Nat × Nat × Nat)
/-- methods: class, whether it is a constructor, locals, what it answers, its instructions -/
abbrev zM : Type := Nat → Option (Nat × Bool × Nat × Option FieldType × (Nat → Option (Instr × Nat)))
def zret (rt : Option FieldType) (i : Instr) (st : List Value) : Option (Option Value) :=
  match i with
  | .ireturn => match st, rt with
    | [.int v], some ty => if narrow ty (.int v) = .int v then some (some (.int v)) else none
    | _, _ => none
  | .lreturn => match st, rt with
    | [.long v], some .long => some (some (.long v))
    | _, _ => none
  | .areturn => match st, rt with
    | [.ref a], some (.object _) => some (some (.ref a))
    | _, _ => none
  | .return_ => match st, rt with
    | [], none => some none
    | _, _ => none
  | _ => none
def zw8 (r : List Value) : Bool := decide ((r.map fun v => v.category).sum ≤ 8)
def zobjI (I : zI) (c : Nat) (i : Instr) (st : List Value) : Option (List Value) :=
  match i with
  | .invokespecial j => match I c j, st with
    | some (0, _, _), .ref _ :: r => if zw8 r = true then some r else none
    | _, _ => none
  | .invokestatic j => match I c j, st with
    | some (5, _, _), .int y :: .int x :: r => if zw8 r = true then some (.int (if x < y then y else x) :: r) else none
    | some (6, _, _), .int y :: .int x :: r => if zw8 r = true then some (.int (if y < x then y else x) :: r) else none
    | some (7, _, _), .int x :: r => if zw8 r = true then some (.int (if 0 ≤ x then x else 0 - x) :: r) else none
    | some (8, _, _), .long y :: .long x :: r => if zw8 r = true then some (.long (if y < x then x else y) :: r) else none
    | some (9, _, _), .long y :: .long x :: r => if zw8 r = true then some (.long (if y < x then y else x) :: r) else none
    | some (10, _, _), .long x :: r => if zw8 r = true then some (.long (if 0 < x then x else -x) :: r) else none
    | _, _ => none
  | _ => none
def zcall (X : zX) (I : zI) (mcl : Nat → Nat) (c : Nat) (i : Instr) (st : List Value) (h : zH) : Option (Nat × List Value × List Value) :=
  match i with
  | .invokevirtual j => match I c j with
    | some (1, mi, n) => match st.drop n with
      | .ref b :: r => match h[b]? with
        | some (ci, .inr (.inr (.inr _))) => if ci = mcl mi ∧ n ≤ st.length ∧ zw8 r = true then some (mi, .ref b :: (st.take n).reverse, r) else none
        | _ => none
      | .retAddr b :: r => if zxcl X b = some (mcl mi) ∧ n ≤ st.length ∧ zw8 r = true then some (mi, .retAddr b :: (st.take n).reverse, r) else none
      | _ => none
    | _ => none
  | .invokestatic j => match I c j with
    | some (2, mi, n) => if n ≤ st.length ∧ zw8 (st.drop n) = true then some (mi, (st.take n).reverse, st.drop n) else none
    | _ => none
  | .invokespecial j => match I c j with
    | some (3, mi, n) => match st.drop n with
      | .ref b :: r => if n ≤ st.length ∧ zw8 r = true then some (mi, .ref b :: (st.take n).reverse, r) else none
      | _ => none
    | some (4, mi, n) => match st.drop n with
      | .ref b :: r => if n ≤ st.length ∧ zw8 r = true then some (mi, .ref b :: (st.take n).reverse, r) else none
      | _ => none
    | _ => none
  | _ => none
abbrev zC : Type := Nat → List Value → zH → Option Value → zH → Prop
def zRun (X : zX) (I : zI) (mcl : Nat → Nat) (C : zC) (c : Nat) (ini : Bool) (nL : Nat) (rt : Option FieldType) (tab : Nat → Option (Instr × Nat)) : Nat → Nat → zL → List Value → zH → Option Value → zH → Prop
  | 0 => fun _ _ _ _ _ _ => False
  | n + 1 => fun pc ls st h r h' => ∃ (i : Instr) (len : Nat), tab pc = some (i, len) ∧
      ((zret rt i st = some r ∧ h' = h) ∨
       (∃ (pc1 : Nat) (ls1 : zL) (st1 : List Value) (h1 : zH), zstep X nL ini c i pc ls st h = some (pc1, ls1, st1, h1) ∧ zRun X I mcl C c ini nL rt tab n pc1 ls1 st1 h1 r h') ∨
       (∃ rest : List Value, zobjI I c i st = some rest ∧ zRun X I mcl C c ini nL rt tab n (pc + 3) ls rest h r h') ∨
       (∃ (mi : Nat) (as rest : List Value) (r1 : Option Value) (h1 : zH), zcall X I mcl c i st h = some (mi, as, rest) ∧ C mi as h r1 h1 ∧ zRun X I mcl C c ini nL rt tab n (pc + 3) ls (r1.toList ++ rest) h1 r h'))
/-- d: how deep calls go at most -/
def zEv (X : zX) (I : zI) (mcl : Nat → Nat) (mt : zM) : Nat → zC
  | 0 => fun _ _ _ _ _ => False
  | d + 1 => fun mi as h r h' => ∃ (c : Nat) (ini : Bool) (nL : Nat) (rt : Option FieldType) (tab : Nat → Option (Instr × Nat)) (n : Nat), mt mi = some (c, ini, nL, rt, tab) ∧ (lg_sl as).length ≤ nL ∧ zRun X I mcl (zEv X I mcl mt d) c ini nL rt tab n 0 (lv_args 0 as) [] h r h'
/-- cells don't go -/
def zLe (h h' : zH) : Prop := h.length ≤ h'.length ∧ zsl h ≤ zsl h'
theorem zLe.rf {h : zH} : zLe h h := ⟨Nat.le_refl _, Nat.le_refl _⟩
theorem zLe.trans {a b c : zH} (h1 : zLe a b) (h2 : zLe b c) : zLe a c := ⟨Nat.le_trans h1.1 h2.1, Nat.le_trans h1.2 h2.2⟩
theorem zLe.push {h : zH} {e : zE} : zLe h (h ++ [e]) := ⟨by simp, by rw [zsl_push]; omega⟩
theorem zLe.set {h : zH} {a : Nat} {e e' : zE} (ha : h[a]? = some e) (hz : zsz e' = zsz e) : zLe h (h.set a e') := ⟨by simp, by rw [zsl_set ha hz]; omega⟩
theorem zbr_h {b : Bool} {pc : Nat} {off : Int} {ls : zL} {st : List Value} {h : zH} {pc' : Nat} {ls' : zL} {st' : List Value} {h' : zH} (e : zbr b pc off ls st h = some (pc', ls', st', h')) : h' = h := by
  obtain ⟨_, _, _, _, q, _⟩ := zbr_of e
  exact q
set_option maxHeartbeats 4000000 in
theorem zstI_h {X : zX} {i : Instr} {pc : Nat} {ls : zL} {st : List Value} {h : zH} {pc' : Nat} {ls' : zL} {st' : List Value} {h' : zH} (hs : zstI X i pc ls st h = some (pc', ls', st', h')) : h' = h := by
  unfold zstI at hs
  split at hs
  all_goals (try (exact (zjump_of hs).2.2.2))
  all_goals (try (split at hs))
  all_goals (try (split at hs))
  all_goals (try (exact (zjump_of hs).2.2.2))
  all_goals (try (split at hs))
  all_goals (try (exact (zjump_of hs).2.2.2))
  all_goals (try (exact zbr_h hs))
  all_goals (first | (cases hs; rfl) | cases hs)
set_option maxHeartbeats 4000000 in
theorem zstL_h {nL : Nat} {i : Instr} {pc : Nat} {ls : zL} {st : List Value} {h : zH} {pc' : Nat} {ls' : zL} {st' : List Value} {h' : zH} (hs : zstL nL i pc ls st h = some (pc', ls', st', h')) : h' = h := by
  unfold zstL at hs
  split at hs
  all_goals (try (split at hs))
  all_goals (try (split at hs))
  all_goals (first | (cases hs; rfl) | cases hs)
set_option maxHeartbeats 8000000 in
theorem zstH_h {X : zX} {ini : Bool} {c : Nat} {i : Instr} {pc : Nat} {ls : zL} {st : List Value} {h : zH} {pc' : Nat} {ls' : zL} {st' : List Value} {h' : zH} (hs : zstH X ini c i pc ls st h = some (pc', ls', st', h')) : zLe h h' := by
  unfold zstH at hs
  split at hs
  all_goals (try (split at hs))
  all_goals (try (split at hs))
  all_goals (try (split at hs))
  all_goals (try (split at hs))
  all_goals (first | (cases hs; exact zLe.rf) | (cases hs; exact zLe.push) | (cases hs; exact zLe.set (by assumption) (by simp [zsz])) | cases hs)
theorem zstep_h {X : zX} {nL : Nat} {ini : Bool} {c : Nat} {i : Instr} {pc : Nat} {ls : zL} {st : List Value} {h : zH} {pc' : Nat} {ls' : zL} {st' : List Value} {h' : zH} (hs : zstep X nL ini c i pc ls st h = some (pc', ls', st', h')) : zLe h h' := by
  unfold zstep at hs
  split at hs
  · next q =>
    cases hs
    rw [zstI_h q]
    exact zLe.rf
  · split at hs
    · next q =>
      cases hs
      rw [zstL_h q]
      exact zLe.rf
    · exact zstH_h hs
theorem zRun_h {X : zX} {I : zI} {mcl : Nat → Nat} {C : zC} {c : Nat} {ini : Bool} {nL : Nat} {rt : Option FieldType} {tab : Nat → Option (Instr × Nat)} (hC : ∀ mi as h r h', C mi as h r h' → zLe h h') : ∀ (n pc : Nat) (ls : zL) (st : List Value) (h : zH) (r : Option Value) (h' : zH), zRun X I mcl C c ini nL rt tab n pc ls st h r h' → zLe h h' := by
  intro n
  induction n with
  | zero => intro pc ls st h r h' q; exact q.elim
  | succ n ih =>
    intro pc ls st h r h' q
    obtain ⟨i, len, -, q⟩ := q
    rcases q with ⟨-, rfl⟩ | ⟨pc1, ls1, st1, h1, q1, q2⟩ | ⟨rest, -, q2⟩ | ⟨mi, as, rest, r1, h1, -, q1, q2⟩
    · exact zLe.rf
    · exact (zstep_h q1).trans (ih _ _ _ _ _ _ q2)
    · exact ih _ _ _ _ _ _ q2
    · exact (hC _ _ _ _ _ q1).trans (ih _ _ _ _ _ _ q2)
theorem zEv_h {X : zX} {I : zI} {mcl : Nat → Nat} {mt : zM} : ∀ (d mi : Nat) (as : List Value) (h : zH) (r : Option Value) (h' : zH), zEv X I mcl mt d mi as h r h' → zLe h h' := by
  intro d
  induction d with
  | zero => intro mi as h r h' q; exact q.elim
  | succ d ih =>
    intro mi as h r h' q
    obtain ⟨c, ini, nL, rt, tab, n, -, -, q⟩ := q
    exact zRun_h ih _ _ _ _ _ _ _ q
end
section
/-! The Java machine follows our runs: a method's contract out of its run. -/
theorem zargs_cl {B : Nat} {xa : Nat → Nat} : ∀ (as : List Value) (i : Nat), lv_args i (as.map (zcv B xa)) = zcl B xa (lv_args i as)
  | [], _ => rfl
  | v :: as, i => by
    show (i, zcv B xa v) :: lv_args (if (zcv B xa v).category = 2 then i + 2 else i + 1) (as.map (zcv B xa)) = (i, zcv B xa v) :: zcl B xa (lv_args (if v.category = 2 then i + 2 else i + 1) as)
    rw [zcv_cat, zargs_cl as]
theorem zsl_len {B : Nat} {xa : Nat → Nat} : ∀ (as : List Value), (lg_sl (as.map (zcv B xa))).length = (lg_sl as).length
  | [] => rfl
  | v :: as => by
    have ih := zsl_len (B := B) (xa := xa) as
    simp only [lg_sl, List.map_cons, List.flatMap_cons, List.length_append, zcv_cat] at ih ⊢
    rw [ih]
    split <;> rfl
theorem zw8_map {B : Nat} {xa : Nat → Nat} {r : List Value} (h : zw8 r = true) : ((r.map (zcv B xa)).map fun v => v.category).sum ≤ 8 := by
  have h1 := of_decide_eq_true h
  rw [List.map_map]
  have : ((fun v : Value => v.category) ∘ zcv B xa) = fun v => v.category := by funext v; exact zcv_cat B xa v
  rw [this]
  exact h1
def zws (Ts : List Cond) (y : Nat → MethodName × ByteArray) (mi nL : Nat) (rt : Option FieldType) : List Cond := Cond.code (y mi).1 (y mi).2 nL rt :: Ts
def zrm (d mc ms : Nat) : Room := { frames := d, cells := mc, slots := ms, locals := d * 64 }
/-- what the words say of methods and calls -/
def zCal (Ts : List Cond) (I : zI) (y : Nat → MethodName × ByteArray) (own : Nat → String) (mcl : Nat → Nat) (mt : zM) (cl : List vw_C) : Prop :=
  (∀ (mi c : Nat) (ini : Bool) (nL : Nat) (rt : Option FieldType) (tab : Nat → Option (Instr × Nat)), mt mi = some (c, ini, nL, rt, tab) → Cond.code (y mi).1 (y mi).2 nL rt ∈ Ts ∧ (y mi).1.cls = own c ∧ mcl mi = c ∧ plainName (y mi).1.cls = true ∧ (nL ≤ 45 ∧ c < 1000) ∧ (ini = true → (y mi).1.name = "<init>") ∧ ∀ (pc : Nat) (i : Instr) (len : Nat), tab pc = some (i, len) → decode (y mi).2 pc = .ok (i, len) ∧ zlok i len = true) ∧
  (∀ w ∈ Ts, (w.onTables && w.keeps) = true ∨ ∃ ty, w = .arrayClass ty) ∧
  (∀ (ci : Nat) (q : vw_C), cl[ci]? = some q → q.1 = own ci) ∧
  (∀ (c j kd mi n : Nat), I c j = some (kd, mi, n) →
    (kd = 0 → Cond.methodLink (own c) j Lib.objectInit ∈ Ts ∧ Cond.instanceMethod Lib.objectInit ∈ Ts ∧ Cond.code Lib.objectInit ⟨#[0xb1]⟩ 1 none ∈ Ts) ∧
    (0 < kd ∧ kd < 5 → (y mi).1.cls ≠ "java/lang/invoke/MethodHandle" ∧ (y mi).1.cls ≠ "java/lang/invoke/VarHandle" ∧ (parseMethodDescriptor (y mi).1.desc).map (fun d => d.parameters.length) = some n ∧ Cond.initialized (y mi).1.cls ∈ Ts) ∧
    (kd = 1 → Cond.methodLink (own c) j (y mi).1 ∈ Ts ∧ Cond.instanceMethod (y mi).1 ∈ Ts ∧ Cond.selects (y mi).1.cls (y mi).1 (y mi).1 ∈ Ts) ∧
    (kd = 2 → Cond.methodLink (own c) j (y mi).1 ∈ Ts ∧ Cond.static (y mi).1 ∈ Ts) ∧
    (kd = 3 → Cond.methodLink (own c) j (y mi).1 ∈ Ts ∧ Cond.instanceMethod (y mi).1 ∈ Ts ∧ (y mi).1.name = "<init>" ∧ ∀ (c : Nat) (ini : Bool) (nL : Nat) (rt : Option FieldType) (tab : Nat → Option (Instr × Nat)), mt mi = some (c, ini, nL, rt, tab) → rt = none) ∧
    (kd = 4 → Cond.instanceMethod (y mi).1 ∈ Ts ∧ (y mi).1.name = "<init>" ∧ ∀ (c : Nat) (ini : Bool) (nL : Nat) (rt : Option FieldType) (tab : Nat → Option (Instr × Nat)), mt mi = some (c, ini, nL, rt, tab) → rt = none))
/-- what the words say of Math's methods -/
def zMath (Ts : List Cond) (I : zI) (own : Nat → String) : Prop :=
  ∀ (c j kd mi n : Nat), I c j = some (kd, mi, n) →
    (kd = 5 → Cond.methodLink (own c) j Lib.Math.max.name ∈ Ts ∧ Cond.static Lib.Math.max.name ∈ Ts ∧ Cond.initialized "java/lang/Math" ∈ Ts ∧ Cond.code Lib.Math.max.name Lib.Math.max.code 2 (some .int) ∈ Ts) ∧
    (kd = 6 → Cond.methodLink (own c) j Lib.Math.min.name ∈ Ts ∧ Cond.static Lib.Math.min.name ∈ Ts ∧ Cond.initialized "java/lang/Math" ∈ Ts ∧ Cond.code Lib.Math.min.name Lib.Math.min.code 2 (some .int) ∈ Ts) ∧
    (kd = 7 → Cond.methodLink (own c) j Lib.Math.abs.name ∈ Ts ∧ Cond.static Lib.Math.abs.name ∈ Ts ∧ Cond.initialized "java/lang/Math" ∈ Ts ∧ Cond.code Lib.Math.abs.name Lib.Math.abs.code 1 (some .int) ∈ Ts) ∧
    (kd = 8 → Cond.methodLink (own c) j Lib.MathLoose.max_long.x ∈ Ts ∧ Cond.static Lib.MathLoose.max_long.x ∈ Ts ∧ Cond.initialized "java/lang/Math" ∈ Ts ∧ Cond.code Lib.MathLoose.max_long.x Lib.MathLoose.max_long.code 4 (some .long) ∈ Ts) ∧
    (kd = 9 → Cond.methodLink (own c) j Lib.MathLoose.min_long.x ∈ Ts ∧ Cond.static Lib.MathLoose.min_long.x ∈ Ts ∧ Cond.initialized "java/lang/Math" ∈ Ts ∧ Cond.code Lib.MathLoose.min_long.x Lib.MathLoose.min_long.code 4 (some .long) ∈ Ts) ∧
    (kd = 10 → Cond.methodLink (own c) j Lib.MathLoose.abs_long.x ∈ Ts ∧ Cond.static Lib.MathLoose.abs_long.x ∈ Ts ∧ Cond.initialized "java/lang/Math" ∈ Ts ∧ Cond.code Lib.MathLoose.abs_long.x Lib.MathLoose.abs_long.code 2 (some .long) ∈ Ts)
/-- what a state says of nest mates' constructors -/
def zGN (I : zI) (y : Nat → MethodName × ByteArray) (own : Nat → String) (s : State) : Prop :=
  ∀ (c j mi n : Nat), I c j = some (4, mi, n) → ∃ host : String, va_Nw (.methodLinkNest (own c) j (y mi).1 host) s
theorem zGS.moved {Ts : List Cond} {B : Nat} {xa : Nat → Nat} {ca : Nat → ClassId} {D : va_G} {cl : List vw_C} {P : String} {X : zX} {own : Nat → String} {s U : State} (hW : s.WarmedH U.vm) (hq : ∀ q : Nat, q < s.heap.size → ¬ zA B q → U.heap[q]? = s.heap[q]?) (h : zGS Ts B xa ca D cl P X own s) : zGS Ts B xa ca D cl P X own U := by
  obtain ⟨h1, h2, h3, h4, h5, h6, h7⟩ := h
  refine ⟨va_K.moved hW.alike h1, h2.moved hW.alike, fun c j e q => ?_, fun c j v q => ?_, fun c j e v q => ?_, fun e b l q => ?_, fun e c q => ?_⟩
  · obtain ⟨tx, g⟩ := h3 c j e q
    exact ⟨tx, g.warm hW⟩
  · obtain ⟨C, n, d, g, w⟩ := h4 c j v q
    exact ⟨C, n, d, (g.kept hq).moved hW.alike, w⟩
  · obtain ⟨o, n, d, g, w⟩ := h5 c j e v q
    exact ⟨o, n, d, (g.kept hq).moved hW.alike, w⟩
  · exact ((h6 e b l q).kept hq).moved hW.alike
  · exact ((h7 e c q).kept hq).moved hW.alike
theorem zGN.moved {I : zI} {y : Nat → MethodName × ByteArray} {own : Nat → String} {s U : State} (hW : s.WarmedH U.vm) (h : zGN I y own s) : zGN I y own U := fun c j mi n q => by
  obtain ⟨host, g⟩ := h c j mi n q
  exact ⟨host, g.warmM hW⟩
def zPc (Ts : List Cond) (B : Nat) (xa : Nat → Nat) (ca : Nat → ClassId) (D : va_G) (cl : List vw_C) (P : String) (X : zX) (own : Nat → String) (I : zI) (y : Nat → MethodName × ByteArray) (as : List Value) (h : zH) : Array Value → State → Prop := fun a U =>
  a = (as.map (zcv B xa)).toArray ∧ zHR B xa ca D cl h U.heap ∧ zGS Ts B xa ca D cl P X own U ∧ zGN I y own U
def zQc (B : Nat) (xa : Nat → Nat) (ca : Nat → ClassId) (D : va_G) (cl : List vw_C) (r : Option Value) (h : zH) : Array Value → State → Outcome → State → Prop := fun _ st oc t =>
  oc = .returned (r.map (zcv B xa)) ∧ zHR B xa ca D cl h t.heap ∧ va_F (zA B) st t
theorem zPc_blind {Ts : List Cond} {B : Nat} {xa : Nat → Nat} {ca : Nat → ClassId} {D : va_G} {cl : List vw_C} {P : String} {X : zX} {own : Nat → String} {I : zI} {y : Nat → MethodName × ByteArray} {as : List Value} {h : zH} : FrameBlind (zPc Ts B xa ca D cl P X own I y as h) := by
  intro a U g mk q
  obtain ⟨q1, q2, q3, q4⟩ := q
  exact ⟨q1, q2, zGS.moved (s := U) (U := U.calling g mk a) (State.WarmedH.refl U) (fun _ _ _ => rfl) q3, zGN.moved (s := U) (U := U.calling g mk a) (State.WarmedH.refl U) q4⟩
section ZS
variable {p : Program} {l : Launch} {e : Env} {R : Room} {s : State} {m : MethodId} {args : Array Value} {below : List Frame} {meth : Method} {c : Code} {H : Heap} {locs : List Loc} {Q : State → Prop}
variable {cc : ByteArray} {B : Nat} {xa : Nat → Nat} {ca : Nat → ClassId} {D : va_G} {cl : List vw_C}
theorem zcall_W {cells slots mc ms pc : Nat} {LS : Array Slot} {st0 rest : List Value} {a : Array Value} {r : Option Value} {h1 : zH} (hr : va_Run p l e R s m args below meth c H locs cells slots mc ms (F0 m pc LS st0) rest (zQc B xa ca D cl r h1 a) (zA B)) (hS : va_S (zA B) s.heap H locs)
    (kk : ∀ (H1 : Heap) (locs1 : List Loc), zHR B xa ca D cl h1 H1 → va_S (zA B) s.heap H1 locs1 → W p l e R s m args below meth c H1 locs1 (cells + mc) (slots + ms) Q (F0 m (pc + 3) LS ((r.map (zcv B xa)).toList ++ rest))) : W p l e R s m args below meth c H locs cells slots Q (F0 m pc LS st0) := by
  intro T hT X
  obtain ⟨v, st₀, t, T', L, h0, X', hL, e1, e2, ⟨hv, hR1, hz, hk⟩, st⟩ := hr T hT X
  cases hv
  rw [h0] at hz hk
  obtain ⟨t2, a1, b1⟩ := kk T'.heap (locs ++ L) (by rw [e1]; exact hR1) ⟨Nat.le_trans hS.1 (by rw [e1]; exact hz), fun q g1 g2 => by rw [e1, hk q (Nat.lt_of_lt_of_le g1 hS.1) g2]; exact hS.2.1 q g1 g2, fun q hq => by
      rcases List.mem_append.mp hq with h | h
      · exact hS.2.2 q h
      · exact hL q h⟩ T' rfl X'
  exact ⟨t2, st t2 a1, b1⟩
theorem zstep_ok {Ts : List Cond} {P : String} {X : zX} {own : Nat → String} {ini : Bool} {c0 cells slots nL : Nat} {i : Instr} {len pc : Nat} {ls : zL} {st : List Value} {h : zH} {pc' : Nat} {ls' : zL} {st' : List Value} {h' : zH} {LS : Array Slot} (hx : p.tables.exec = Jvm.exec) (hb : c.code = cc) (hd : decode cc pc = .ok (i, len)) (hlen : zlok i len = true)
    (hts : ∀ w ∈ Ts, w.before args s = true) (hown : s.vm.findClass (own c0) = some m.cls) (hT : zTab Ts cl P X c0 (own c0)) (hG : zGS Ts B xa ca D cl P X own s) (hini : ini = true → meth.name = "<init>") (hR : zHR B xa ca D cl h H) (hS : va_S (zA B) s.heap H locs) (hB : B ≤ s.heap.size) (hl : lv_has LS nL (zcl B xa ls))
    (hroom : cells + (h'.length - h.length) ≤ R.cells ∧ slots + (zsl h' - zsl h) ≤ R.slots) (hs : zstep X nL ini c0 i pc ls st h = some (pc', ls', st', h'))
    (k : ∀ (H' : Heap) (locs' : List Loc) (LS' : Array Slot), zHR B xa ca D cl h' H' → va_S (zA B) s.heap H' locs' → lv_has LS' nL (zcl B xa ls') → W p l e R s m args below meth c H' locs' (cells + (h'.length - h.length)) (slots + (zsl h' - zsl h)) Q (F0 m pc' LS' (st'.map (zcv B xa)))) : W p l e R s m args below meth c H locs cells slots Q (F0 m pc LS (st.map (zcv B xa))) := by
  unfold zstep at hs
  split at hs
  · next q =>
    cases hs
    have e1 := zstI_h q
    subst e1
    have e2 : ls' = ls := (zstI_ok (p := p) (l := l) (e := e) (R := R) (s := s) (m := m) (args := args) (below := below) (meth := meth) (c := c) (H := H) (locs := locs) (cells := 0) (slots := 0) (Q := fun _ => True) (B := B) (xa := xa) (LS := LS) hx hb hd hlen q (fun T _ _ => ⟨_, Steps.refl _, trivial⟩)).2.1
    subst e2
    rw [Nat.sub_self, Nat.sub_self, Nat.add_zero, Nat.add_zero] at k
    exact (zstI_ok hx hb hd hlen q (k H locs LS hR hS hl)).1
  · split at hs
    · next q =>
      cases hs
      have e1 := zstL_h q
      subst e1
      rw [Nat.sub_self, Nat.sub_self, Nat.add_zero, Nat.add_zero] at k
      exact (zstL_ok hx hb hd hlen hl q (fun LS' h2 => k H locs LS' hR hS h2)).1
    · have e2 : ls' = ls := by
        unfold zstH at hs
        split at hs
        all_goals (try (split at hs))
        all_goals (try (split at hs))
        all_goals (try (split at hs))
        all_goals (try (split at hs))
        all_goals (first | (cases hs; rfl) | cases hs)
      subst e2
      exact (zstH_ok hx hb hd hlen hts hown hT hG hini hR hS hB hroom hs (fun H' locs' g1 g2 => k H' locs' LS g1 g2 hl)).1
end ZS
end
section
theorem zGoodIn {Ts : List Cond} (hg : ∀ w ∈ Ts, (w.onTables && w.keeps) = true ∨ ∃ ty, w = .arrayClass ty) {c0 : Cond} {ws : List Cond} (h : ∀ w ∈ ws, w ∈ Ts) : GoodIn (c0 :: Ts) ws := fun w hw => ⟨List.mem_cons_of_mem _ (h w hw), hg w (h w hw)⟩
theorem zsplit {st r : List Value} {n : Nat} {v : Value} (h : st.drop n = v :: r) (f : Value → Value) : st.map f = ((st.take n).reverse.map f).reverse ++ f v :: r.map f := by
  have h1 : st = st.take n ++ (v :: r) := by rw [← h, List.take_append_drop]
  have h2 := congrArg (List.map f) h1
  rw [List.map_append] at h2
  rw [h2, List.map_reverse, List.reverse_reverse]
  rfl
theorem zsplitS {st : List Value} {n : Nat} (f : Value → Value) : st.map f = ((st.take n).reverse.map f).reverse ++ (st.drop n).map f := by
  have h2 := congrArg (List.map f) (List.take_append_drop n st).symm
  rw [List.map_append] at h2
  rw [h2, List.map_reverse, List.reverse_reverse]
theorem zlen_take {st : List Value} {n : Nat} (h : n ≤ st.length) (f : Value → Value) : ((st.take n).reverse.map f).length = n := by simp [Nat.min_eq_left h]
section ZS
variable {p : Program} {l : Launch} {e : Env} {R : Room} {s : State} {m : MethodId} {args : Array Value} {below : List Frame} {meth : Method} {c : Code} {H : Heap} {locs : List Loc} {Q : State → Prop}
variable {cc : ByteArray} {B : Nat} {xa : Nat → Nat} {ca : Nat → ClassId} {D : va_G} {cl : List vw_C}
variable {Ts : List Cond} {P : String} {X : zX} {own : Nat → String} {I : zI} {y : Nat → MethodName × ByteArray} {mcl : Nat → Nat} {mt : zM}
set_option maxHeartbeats 4000000 in
theorem zcall_ok {c0 nL cells slots pc len : Nat} {cd0 : Cond} {i : Instr} {st : List Value} {h h1 : zH} {LS : Array Slot} {mi : Nat} {as rest : List Value} {r1 : Option Value} {d mc ms c1 nL1 : Nat} {ini1 : Bool} {rt1 : Option FieldType} {tab1 : Nat → Option (Instr × Nat)}
    (hx : p.tables.exec = Jvm.exec) (hb : c.code = cc) (hml : c.maxLocals = nL) (hd : decode cc pc = .ok (i, len)) (hlen : zlok i len = true) (hts : ∀ w ∈ cd0 :: Ts, w.before args s = true) (hown : s.vm.findClass (own c0) = some m.cls) (hG : zGS Ts B xa ca D cl P X own s) (hN : zGN I y own s) (hCal : zCal Ts I y own mcl mt cl)
    (hR : zHR B xa ca D cl h H) (hS : va_S (zA B) s.heap H locs) (hl : LS.size = nL) (hz : zcall X I mcl c0 i st h = some (mi, as, rest)) (hmi : mt mi = some (c1, ini1, nL1, rt1, tab1))
    (hM : Met l (y mi).1 (zws Ts y mi nL1 rt1) (zrm d mc ms) (zPc Ts B xa ca D cl P X own I y as h) (zQc B xa ca D cl r1 h1) mc ms (zA B)) (hfr : d + 1 ≤ R.frames) (hlo : (d + 1) * 64 ≤ R.locals) (hf : cells + mc ≤ R.cells ∧ slots + ms ≤ R.slots) :
    va_Run p l e R s m args below meth c H locs cells slots mc ms (F0 m pc LS (st.map (zcv B xa))) (rest.map (zcv B xa)) (zQc B xa ca D cl r1 h1 (as.map (zcv B xa)).toArray) (zA B) := by
  obtain ⟨k1, k2, k3, k4⟩ := hCal
  obtain ⟨m1, m2, m3, m4, m5, m6, m7⟩ := k1 _ _ _ _ _ _ hmi
  have m51 := m5.1
  have hpre : ∀ U : State, U.heap = H → s.WarmedH U.vm → zPc Ts B xa ca D cl P X own I y as h (as.map (zcv B xa)).toArray U := fun U hU hW => ⟨rfl, by rw [hU]; exact hR, zGS.moved hW (fun q g1 g2 => by rw [hU]; exact hS.2.1 q g1 g2) hG, zGN.moved hW hN⟩
  have hrm : (zrm d mc ms).frames + 1 ≤ R.frames ∧ 8 + (nL1 + 11) + (zrm d mc ms).locals ≤ R.locals := ⟨hfr, by show 8 + (nL1 + 11) + d * 64 ≤ _; omega⟩
  have hwsin : ∀ w ∈ zws Ts y mi nL1 rt1, w ∈ Ts := fun w hw => by
    rcases List.mem_cons.mp hw with rfl | hw
    · exact m1
    · exact hw
  cases i with
  | invokevirtual j =>
    obtain rfl : len = 3 := eq_of_beq hlen
    dsimp only [zcall] at hz
    split at hz
    · next mi' n hI =>
      obtain ⟨-, w1, w2, -⟩ := k4 _ _ _ _ _ hI
      have w1 := w1 ⟨by decide, by decide⟩
      have w2 := w2 rfl
      split at hz
      · next b r hdrop =>
        split at hz
        · next ci fs hbh =>
          split at hz
          · next hcond =>
            obtain ⟨hci, hn, hw⟩ := hcond
            cases hz
            obtain ⟨r', h1', cell, g1, g2, g3, -⟩ := hR.2 _ _ hbh (by show ci < 1000; rw [hci, m3]; exact m5.2)
            have hcls := (hG.1.1 ci _ h1').2.1
            have hnm : r'.1 = (y mi).1.cls := by rw [k3 _ _ h1', m2, hci, m3]
            exact va_runV (C := (y mi).1.cls) ⟨hx, hb, hml, hown, hts⟩ hM (cwV n hts (zGoodIn k2 (fun w hw => by
                rcases List.mem_append.mp hw with hw | hw
                · simp only [List.mem_cons, List.not_mem_nil, or_false] at hw
                  rcases hw with rfl | rfl | rfl | rfl
                  · exact w2.1
                  · exact w2.2.1
                  · exact w2.2.2
                  · exact w1.2.2.2
                · exact hwsin w hw)) rfl rfl rfl ⟨rfl, w1.1, w1.2.1, w1.2.2.1⟩ hrm)
              ⟨zPc_blind, ⟨cell, g1, by rw [g3]; rfl, by rw [← hnm, g2]; exact hcls⟩, hpre⟩ rfl (zlen_take hn _) hl (zsplit hdrop _) (lv_room (zw8_map hw)) hd hf
          · cases hz
        · cases hz
      · next b r hdrop =>
        split at hz
        · next hcond =>
          obtain ⟨hci, hn, hw⟩ := hcond
          cases hz
          obtain ⟨cell, g1, g2, g3, g4⟩ := (hG.2.2.2.2.2.2 _ _ hci).kept hS.2.1
          have hnm : own (mcl mi) = (y mi).1.cls := by rw [m2, m3]
          exact va_runV (C := (y mi).1.cls) ⟨hx, hb, hml, hown, hts⟩ hM (cwV n hts (zGoodIn k2 (fun w hw => by
                rcases List.mem_append.mp hw with hw | hw
                · simp only [List.mem_cons, List.not_mem_nil, or_false] at hw
                  rcases hw with rfl | rfl | rfl | rfl
                  · exact w2.1
                  · exact w2.2.1
                  · exact w2.2.2
                  · exact w1.2.2.2
                · exact hwsin w hw)) rfl rfl rfl ⟨rfl, w1.1, w1.2.1, w1.2.2.1⟩ hrm)
            ⟨zPc_blind, ⟨cell, g1, g2, by rw [← hnm]; exact g3⟩, hpre⟩ rfl (zlen_take hn _) hl (zsplit hdrop _) (lv_room (zw8_map hw)) hd hf
        · cases hz
      · cases hz
    · cases hz
  | invokestatic j =>
    obtain rfl : len = 3 := eq_of_beq hlen
    dsimp only [zcall] at hz
    split at hz
    · next mi' n hI =>
      obtain ⟨-, w1, -, w2, -⟩ := k4 _ _ _ _ _ hI
      have w1 := w1 ⟨by decide, by decide⟩
      have w2 := w2 rfl
      split at hz
      · next hcond =>
        obtain ⟨hn, hw⟩ := hcond
        cases hz
        exact va_runS ⟨hx, hb, hml, hown, hts⟩ hM (va_cwS n hts (zGoodIn k2 (fun w hw => by
              rcases List.mem_append.mp hw with hw | hw
              · simp only [List.mem_cons, List.not_mem_nil, or_false] at hw
                rcases hw with rfl | rfl | rfl
                · exact w2.1
                · exact w2.2
                · exact w1.2.2.2
              · exact hwsin w hw)) rfl rfl rfl ⟨w1.1, w1.2.1, w1.2.2.1⟩ hrm)
          ⟨zPc_blind, hpre⟩ rfl (zlen_take hn _) hl (zsplitS _) (lv_room (zw8_map hw)) hd hf
      · cases hz
    · cases hz
  | invokespecial j =>
    obtain rfl : len = 3 := eq_of_beq hlen
    dsimp only [zcall] at hz
    split at hz
    · next mi' n hI =>
      obtain ⟨-, w1, -, -, w2, -⟩ := k4 _ _ _ _ _ hI
      have w1 := w1 ⟨by decide, by decide⟩
      have w2 := w2 rfl
      split at hz
      · next b r hdrop =>
        split at hz
        · next hcond =>
          obtain ⟨hn, hw⟩ := hcond
          cases hz
          have hrt := w2.2.2.2 _ _ _ _ _ hmi
          subst hrt
          exact va_runI ⟨hx, hb, hml, hown, hts⟩ hM (cwI n hts (zGoodIn k2 hwsin) rfl rfl rfl (hts _ (List.mem_cons_of_mem _ w1.2.2.2)) (hts _ (List.mem_cons_of_mem _ w2.1)) (hts _ (List.mem_cons_of_mem _ w2.2.1)) w2.2.2.1 ⟨w1.1, w1.2.1, w1.2.2.1⟩ hrm)
            ⟨zPc_blind, hpre⟩ rfl (zlen_take hn _) hl (zsplit hdrop _) (lv_room (zw8_map hw)) hd hf
        · cases hz
      · cases hz
    · next mi' n hI =>
      obtain ⟨-, w1, -, -, -, w2⟩ := k4 _ _ _ _ _ hI
      have w1 := w1 ⟨by decide, by decide⟩
      have w2 := w2 rfl
      split at hz
      · next b r hdrop =>
        split at hz
        · next hcond =>
          obtain ⟨hn, hw⟩ := hcond
          cases hz
          have hrt := w2.2.2 _ _ _ _ _ hmi
          subst hrt
          obtain ⟨host, hh⟩ := hN _ _ _ _ hI
          exact va_runIN ⟨hx, hb, hml, hown, hts⟩ hM ⟨va_cnB n hts (zGoodIn k2 hwsin) rfl rfl rfl hh (hts _ (List.mem_cons_of_mem _ w1.2.2.2)) ⟨w1.1, w1.2.1, w1.2.2.1⟩ hrm, w2.2.1, hts _ (List.mem_cons_of_mem _ w2.1)⟩
            ⟨zPc_blind, hpre⟩ rfl (zlen_take hn _) hl (zsplit hdrop _) (lv_room (zw8_map hw)) hd hf
        · cases hz
      · cases hz
    · cases hz
  | _ => exact nomatch (show (none : Option (Nat × List Value × List Value)) = some _ from hz)
end ZS
end
section
section ZS
variable {p : Program} {l : Launch} {e : Env} {R : Room} {s : State} {m : MethodId} {args : Array Value} {below : List Frame} {meth : Method} {c : Code}
variable {cc : ByteArray} {B : Nat} {xa : Nat → Nat} {ca : Nat → ClassId} {D : va_G} {cl : List vw_C}
variable {Ts : List Cond} {P : String} {X : zX} {own : Nat → String} {I : zI} {y : Nat → MethodName × ByteArray} {mcl : Nat → Nat} {mt : zM}
theorem zret_ok {cells slots pc len : Nat} {rt : Option FieldType} {i : Instr} {st : List Value} {h : zH} {r : Option Value} {H : Heap} {locs : List Loc} {LS : Array Slot} (hx : p.tables.exec = Jvm.exec) (hb : c.code = cc) (hr : meth.sig.returnType = rt) (hlocks : meth.locks = false) (hd : decode cc pc = .ok (i, len)) (hlen : zlok i len = true) (hz : zret rt i st = some r) (hR : zHR B xa ca D cl h H) (hS : va_S (zA B) s.heap H locs) :
    W p l e R s m args below meth c H locs cells slots (MQ below (zQc B xa ca D cl r h) args s cells slots (zA B)) (F0 m pc LS (st.map (zcv B xa))) := by
  cases i with
  | ireturn =>
    obtain rfl : len = 1 := eq_of_beq hlen
    dsimp only [zret] at hz
    split at hz
    · split at hz
      · next hn =>
        cases hz
        exact W.zret hx hb hr hn (fun t ht hW => ⟨rfl, by rw [ht]; exact hR, hS.F ht⟩) hS.2.2 hd hlocks
      · cases hz
    · cases hz
  | lreturn =>
    obtain rfl : len = 1 := eq_of_beq hlen
    dsimp only [zret] at hz
    split at hz
    · cases hz
      exact W.lret hx hb hr (fun t ht hW => ⟨rfl, by rw [ht]; exact hR, hS.F ht⟩) hS.2.2 hd hlocks
    · cases hz
  | areturn =>
    obtain rfl : len = 1 := eq_of_beq hlen
    dsimp only [zret] at hz
    split at hz
    · cases hz
      exact W.aret (v := .ref (B + _)) hx hb hr (Or.inl ⟨_, rfl⟩) (Or.inr ⟨_, rfl⟩) (fun t ht hW => ⟨rfl, by rw [ht]; exact hR, hS.F ht⟩) hS.2.2 hd hlocks
    · cases hz
  | return_ =>
    obtain rfl : len = 1 := eq_of_beq hlen
    dsimp only [zret] at hz
    split at hz
    · cases hz
      exact W.vret hx hb hr (fun t ht hW => ⟨rfl, by rw [ht]; exact hR, hS.F ht⟩) hS.2.2 hd hlocks
    · cases hz
  | _ => exact nomatch (show (none : Option (Option Value)) = some _ from hz)
/-- a callee's contract, as a caller wants it -/
def zMet (l : Launch) (B : Nat) (xa : Nat → Nat) (ca : Nat → ClassId) (D : va_G) (cl : List vw_C) (Ts : List Cond) (P : String) (X : zX) (own : Nat → String) (I : zI) (y : Nat → MethodName × ByteArray) (mt : zM) (d : Nat) (C : zC) : Prop :=
  ∀ (mi : Nat) (as : List Value) (h : zH) (r : Option Value) (h' : zH), C mi as h r h' → zLe h h' ∧ ∃ (c1 : Nat) (ini1 : Bool) (nL1 : Nat) (rt1 : Option FieldType) (tab1 : Nat → Option (Instr × Nat)), mt mi = some (c1, ini1, nL1, rt1, tab1) ∧
    Met l (y mi).1 (zws Ts y mi nL1 rt1) (zrm d (h'.length - h.length) (zsl h' - zsl h)) (zPc Ts B xa ca D cl P X own I y as h) (zQc B xa ca D cl r h') (h'.length - h.length) (zsl h' - zsl h) (zA B)
set_option maxHeartbeats 4000000 in
theorem zrun_ok {c0 nL d : Nat} {ini : Bool} {cd0 : Cond} {rt : Option FieldType} {tab : Nat → Option (Instr × Nat)} {C : zC} (hx : p.tables.exec = Jvm.exec) (hb : c.code = cc) (hml : c.maxLocals = nL) (hr : meth.sig.returnType = rt) (hlocks : meth.locks = false) (hts : ∀ w ∈ cd0 :: Ts, w.before args s = true) (hown : s.vm.findClass (own c0) = some m.cls) (hT : zTab Ts cl P X c0 (own c0)) (hG : zGS Ts B xa ca D cl P X own s) (hN : zGN I y own s) (hini : ini = true → meth.name = "<init>") (hB : B ≤ s.heap.size)
    (htab : ∀ (pc : Nat) (i : Instr) (len : Nat), tab pc = some (i, len) → decode cc pc = .ok (i, len) ∧ zlok i len = true) (hCal : zCal Ts I y own mcl mt cl) (hMa : zMath Ts I own) (hM : zMet l B xa ca D cl Ts P X own I y mt d C) (hfr : d + 1 ≤ R.frames) (hlo : (d + 1) * 64 ≤ R.locals) :
    ∀ (n pc : Nat) (ls : zL) (st : List Value) (h : zH) (r : Option Value) (hF : zH) (cells slots : Nat) (H : Heap) (locs : List Loc) (LS : Array Slot), zRun X I mcl C c0 ini nL rt tab n pc ls st h r hF → cells + (hF.length - h.length) ≤ R.cells → slots + (zsl hF - zsl h) ≤ R.slots → zHR B xa ca D cl h H → va_S (zA B) s.heap H locs → lv_has LS nL (zcl B xa ls) →
      W p l e R s m args below meth c H locs cells slots (MQ below (zQc B xa ca D cl r hF) args s (cells + (hF.length - h.length)) (slots + (zsl hF - zsl h)) (zA B)) (F0 m pc LS (st.map (zcv B xa))) := by
  have hts' : ∀ w ∈ Ts, w.before args s = true := fun w h => hts w (List.mem_cons_of_mem _ h)
  have hCh : ∀ mi as h r h', C mi as h r h' → zLe h h' := fun mi as h r h' q => (hM mi as h r h' q).1
  intro n
  induction n with
  | zero => intro pc ls st h r hF cells slots H locs LS q; exact q.elim
  | succ n ih =>
    intro pc ls st h r hF cells slots H locs LS q hc1 hc2 hR hS hl
    obtain ⟨i, len, ht, q⟩ := q
    obtain ⟨hd, hlen⟩ := htab _ _ _ ht
    rcases q with ⟨q1, rfl⟩ | ⟨pc1, ls1, st1, h1, q1, q2⟩ | ⟨rest, q1, q2⟩ | ⟨mi, as, rest, r1, h1, q1, q3, q2⟩
    · rw [Nat.sub_self, Nat.sub_self, Nat.add_zero, Nat.add_zero]
      exact zret_ok hx hb hr hlocks hd hlen q1 hR hS
    · have hle := zstep_h q1
      have hle2 := zRun_h hCh _ _ _ _ _ _ _ q2
      have t1 := hle.1
      have t2 := hle.2
      have t3 := hle2.1
      have t4 := hle2.2
      refine zstep_ok hx hb hd hlen hts' hown hT hG hini hR hS hB hl ⟨by omega, by omega⟩ q1 (fun H' locs' LS' g1 g2 g3 => ?_)
      have k9 := ih _ _ _ _ _ _ (cells + (h1.length - h.length)) (slots + (zsl h1 - zsl h)) _ _ _ q2 (by omega) (by omega) g1 g2 g3
      rw [show cells + (h1.length - h.length) + (hF.length - h1.length) = cells + (hF.length - h.length) by omega, show slots + (zsl h1 - zsl h) + (zsl hF - zsl h1) = slots + (zsl hF - zsl h) by omega] at k9
      exact k9
    · have hle2 := zRun_h hCh _ _ _ _ _ _ _ q2
      have y1 := hle2.1
      have y2 := hle2.2
      cases i with
      | invokespecial j =>
        obtain rfl : len = 3 := eq_of_beq hlen
        dsimp only [zobjI] at q1
        split at q1
        · next hI =>
          split at q1
          · next hw =>
            cases q1
            obtain ⟨w0, -⟩ := hCal.2.2.2 _ _ _ _ _ hI
            obtain ⟨w1, w2, w3⟩ := w0 rfl
            have h8 := zw8_map (B := B) (xa := xa) hw
            exact W.objInit hx hb hown (hts' _ w1) (hts' _ w2) (hts' _ w3) rfl (hl.1.trans hml.symm) rfl hd (by omega) (by show 2 * 0 + _ + 12 ≤ _; omega) (ih _ _ _ _ _ _ cells slots _ _ _ q2 hc1 hc2 hR hS hl)
          · cases q1
        · cases q1
      | invokestatic j =>
        obtain rfl : len = 3 := eq_of_beq hlen
        dsimp only [zobjI] at q1
        split at q1
        · next hI =>
          split at q1
          · next hw =>
            cases q1
            obtain ⟨w1, w2, w3, w4⟩ := (hMa _ _ _ _ _ hI).1 rfl
            have h8 := zw8_map (B := B) (xa := xa) hw
            exact va_mmax hx hb (hml.trans hl.1.symm) hown (hts' _ w1) (hts' _ w2) (hts' _ w3) (hts' _ w4) (by omega) (by omega) (by omega) (by omega) hd (ih _ _ _ _ _ _ cells slots _ _ _ q2 hc1 hc2 hR hS hl)
          · cases q1
        · next hI =>
          split at q1
          · next hw =>
            cases q1
            obtain ⟨w1, w2, w3, w4⟩ := (hMa _ _ _ _ _ hI).2.1 rfl
            have h8 := zw8_map (B := B) (xa := xa) hw
            exact va_mmin hx hb (hml.trans hl.1.symm) hown (hts' _ w1) (hts' _ w2) (hts' _ w3) (hts' _ w4) (by omega) (by omega) (by omega) (by omega) hd (ih _ _ _ _ _ _ cells slots _ _ _ q2 hc1 hc2 hR hS hl)
          · cases q1
        · next hI =>
          split at q1
          · next hw =>
            cases q1
            obtain ⟨w1, w2, w3, w4⟩ := (hMa _ _ _ _ _ hI).2.2.1 rfl
            have h8 := zw8_map (B := B) (xa := xa) hw
            exact va_mabs hx hb (hml.trans hl.1.symm) hown (hts' _ w1) (hts' _ w2) (hts' _ w3) (hts' _ w4) (by omega) (by omega) (by omega) (by omega) hd (ih _ _ _ _ _ _ cells slots _ _ _ q2 hc1 hc2 hR hS hl)
          · cases q1
        · next hI =>
          split at q1
          · next hw =>
            cases q1
            obtain ⟨w1, w2, w3, w4⟩ := (hMa _ _ _ _ _ hI).2.2.2.1 rfl
            have h8 := zw8_map (B := B) (xa := xa) hw
            exact va_mmax_long hx hb (hml.trans hl.1.symm) hown (hts' _ w1) (hts' _ w2) (hts' _ w3) (hts' _ w4) (by omega) (by omega) (by omega) (by omega) hd (ih _ _ _ _ _ _ cells slots _ _ _ q2 hc1 hc2 hR hS hl)
          · cases q1
        · next hI =>
          split at q1
          · next hw =>
            cases q1
            obtain ⟨w1, w2, w3, w4⟩ := (hMa _ _ _ _ _ hI).2.2.2.2.1 rfl
            have h8 := zw8_map (B := B) (xa := xa) hw
            exact va_mmin_long hx hb (hml.trans hl.1.symm) hown (hts' _ w1) (hts' _ w2) (hts' _ w3) (hts' _ w4) (by omega) (by omega) (by omega) (by omega) hd (ih _ _ _ _ _ _ cells slots _ _ _ q2 hc1 hc2 hR hS hl)
          · cases q1
        · next hI =>
          split at q1
          · next hw =>
            cases q1
            obtain ⟨w1, w2, w3, w4⟩ := (hMa _ _ _ _ _ hI).2.2.2.2.2 rfl
            have h8 := zw8_map (B := B) (xa := xa) hw
            exact va_mabs_long hx hb (hml.trans hl.1.symm) hown (hts' _ w1) (hts' _ w2) (hts' _ w3) (hts' _ w4) (by omega) (by omega) (by omega) (by omega) hd (ih _ _ _ _ _ _ cells slots _ _ _ q2 hc1 hc2 hR hS hl)
          · cases q1
        · cases q1
      | _ => exact nomatch (show (none : Option (List Value)) = some _ from q1)
    · obtain ⟨hle, c1, ini1, nL1, rt1, tab1, hmi, hMet⟩ := hM _ _ _ _ _ q3
      have hle2 := zRun_h hCh _ _ _ _ _ _ _ q2
      have g1 := hle.1
      have g2 := hle.2
      have g3 := hle2.1
      have g4 := hle2.2
      refine zcall_W (zcall_ok (d := d) hx hb hml hd hlen hts hown hG hN hCal hR hS hl.1 q1 hmi hMet hfr hlo ⟨by omega, by omega⟩) hS (fun H1 locs1 k1 k2 => ?_)
      have k9 := ih _ _ _ _ _ _ (cells + (h1.length - h.length)) (slots + (zsl h1 - zsl h)) _ _ _ q2 (by omega) (by omega) k1 k2 hl
      rw [show cells + (h1.length - h.length) + (hF.length - h1.length) = cells + (hF.length - h.length) by omega, show slots + (zsl h1 - zsl h) + (zsl hF - zsl h1) = slots + (zsl hF - zsl h) by omega] at k9
      rw [List.map_append] at k9
      have k8 : (r1.map (zcv B xa)).toList = r1.toList.map (zcv B xa) := by cases r1 <;> rfl
      rw [k8]
      exact k9
end ZS
/-- THE METHODS: what a run of ours says of a method is its contract on the Java machine -/
theorem zEv_ok {l : Launch} {B : Nat} {xa : Nat → Nat} {ca : Nat → ClassId} {D : va_G} {cl : List vw_C} {Ts : List Cond} {P : String} {X : zX} {own : Nat → String} {I : zI} {y : Nat → MethodName × ByteArray} {mcl : Nat → Nat} {mt : zM} (hCal : zCal Ts I y own mcl mt cl) (hMa : zMath Ts I own) (hT : ∀ (mi c : Nat) (ini : Bool) (nL : Nat) (rt : Option FieldType) (tab : Nat → Option (Instr × Nat)), mt mi = some (c, ini, nL, rt, tab) → zTab Ts cl P X c (own c)) : ∀ d : Nat, zMet l B xa ca D cl Ts P X own I y mt d (zEv X I mcl mt d) := by
  intro d
  induction d with
  | zero => intro mi as h r h' q; exact q.elim
  | succ d ih =>
    intro mi as h r h' q
    refine ⟨zEv_h _ _ _ _ _ _ q, ?_⟩
    obtain ⟨c0, ini, nL, rt, tab, n, hmi, hlg, q⟩ := q
    refine ⟨c0, ini, nL, rt, tab, hmi, ?_⟩
    obtain ⟨m1, m2, m3, m4, m5, m6, m7⟩ := hCal.1 _ _ _ _ _ _ hmi
    refine Met.ofW (cc := (y mi).2) (maxL := nL) (ret := rt) (by rw [m4]) rfl ?_
    intro p e s m args below meth c s₁ Bd hml hv
    obtain ⟨rfl, hR, hG, hN⟩ := hv
    have hx := Bd.exec
    have hb := Bd.bytes
    have hr := Bd.returns
    have hts := atoms_spec (ws := zws Ts y mi nL rt) Bd.pre
    have hown : s.vm.findClass (own c0) = some m.cls := by rw [← m2]; exact findClass_of_methodNamed Bd.named
    have hlocks := Bd.notSynchronized
    have hB : B ≤ s.heap.size := by rw [hR.1]; omega
    have hl := lv_entry (as.map (zcv B xa)) (n := nL) (by rw [zsl_len]; exact hlg)
    rw [lg_entry_eq]
    generalize (lg_sl (as.map (zcv B xa)) ++ List.replicate (nL - (lg_sl (as.map (zcv B xa))).length) Slot.unset).toArray = LS at hl ⊢
    rw [zargs_cl] at hl
    have k := zrun_ok (p := p) (l := l) (e := e) (R := (headSpec (zws Ts y mi nL rt) (zrm (d + 1) (h'.length - h.length) (zsl h' - zsl h))).room) (s := s) (m := m) (args := (as.map (zcv B xa)).toArray) (below := below) (meth := meth) (c := c) (d := d) hx hb hml hr hlocks hts hown (hT _ _ _ _ _ _ hmi) hG hN (fun hi => by rw [(name_of_methodNamed Bd.named Bd.method).1]; exact m6 hi) hB m7 hCal hMa ih (Nat.le_refl _) (Nat.le_refl _) n 0 (lv_args 0 as) [] h r h' 0 0 s.heap [] LS q (by show 0 + (h'.length - h.length) ≤ h'.length - h.length; omega) (by show 0 + (zsl h' - zsl h) ≤ zsl h' - zsl h; omega) hR va_S.rf hl
    rw [Nat.zero_add, Nat.zero_add] at k
    exact k
end
section
/-! The same runs, worked out. -/
def zrunF (X : zX) (I : zI) (mcl : Nat → Nat) (C : Nat → List Value → zH → Option (Option Value × zH)) (c : Nat) (ini : Bool) (nL : Nat) (rt : Option FieldType) (tab : Nat → Option (Instr × Nat)) : Nat → Nat → zL → List Value → zH → Option (Option Value × zH)
  | 0, _, _, _, _ => none
  | n + 1, pc, ls, st, h => match tab pc with
    | none => none
    | some (i, _) => match zstep X nL ini c i pc ls st h with
      | some (pc1, ls1, st1, h1) => zrunF X I mcl C c ini nL rt tab n pc1 ls1 st1 h1
      | none => match zret rt i st with
        | some r => some (r, h)
        | none => match zcall X I mcl c i st h with
          | some (mi, as, rest) => match C mi as h with
            | some (r1, h1) => zrunF X I mcl C c ini nL rt tab n (pc + 3) ls (r1.toList ++ rest) h1
            | none => none
          | none => match zobjI I c i st with
            | some rest => zrunF X I mcl C c ini nL rt tab n (pc + 3) ls rest h
            | none => none
def zevF (X : zX) (I : zI) (mcl : Nat → Nat) (mt : zM) : Nat → Nat → List Value → zH → Option (Option Value × zH)
  | 0, _, _, _ => none
  | d + 1, mi, as, h => match mt mi with
    | some (c, ini, nL, rt, tab) => if (lg_sl as).length ≤ nL then zrunF X I mcl (zevF X I mcl mt d) c ini nL rt tab 100000 0 (lv_args 0 as) [] h else none
    | none => none
theorem zrunF_ok {X : zX} {I : zI} {mcl : Nat → Nat} {F : Nat → List Value → zH → Option (Option Value × zH)} {C : zC} {c : Nat} {ini : Bool} {nL : Nat} {rt : Option FieldType} {tab : Nat → Option (Instr × Nat)} (hF : ∀ mi as h r h', F mi as h = some (r, h') → C mi as h r h') : ∀ (n pc : Nat) (ls : zL) (st : List Value) (h : zH) (r : Option Value) (h' : zH), zrunF X I mcl F c ini nL rt tab n pc ls st h = some (r, h') → zRun X I mcl C c ini nL rt tab n pc ls st h r h' := by
  intro n
  induction n with
  | zero => intro pc ls st h r h' q; cases q
  | succ n ih =>
    intro pc ls st h r h' q
    unfold zrunF at q
    split at q
    · cases q
    · next i len ht =>
      refine ⟨i, len, ht, ?_⟩
      split at q
      · next pc1 ls1 st1 h1 hs => exact Or.inr (Or.inl ⟨pc1, ls1, st1, h1, hs, ih _ _ _ _ _ _ q⟩)
      · split at q
        · next r9 hr =>
          cases q
          exact Or.inl ⟨hr, rfl⟩
        · split at q
          · next mi as rest hc =>
            split at q
            · next r1 h1 hC => exact Or.inr (Or.inr (Or.inr ⟨mi, as, rest, r1, h1, hc, hF _ _ _ _ _ hC, ih _ _ _ _ _ _ q⟩))
            · cases q
          · split at q
            · next rest ho => exact Or.inr (Or.inr (Or.inl ⟨rest, ho, ih _ _ _ _ _ _ q⟩))
            · cases q
theorem zevF_ok {X : zX} {I : zI} {mcl : Nat → Nat} {mt : zM} : ∀ (d mi : Nat) (as : List Value) (h : zH) (r : Option Value) (h' : zH), zevF X I mcl mt d mi as h = some (r, h') → zEv X I mcl mt d mi as h r h' := by
  intro d
  induction d with
  | zero => intro mi as h r h' q; cases q
  | succ d ih =>
    intro mi as h r h' q
    unfold zevF at q
    split at q
    · next c ini nL rt tab hm =>
      split at q
      · next hl => exact ⟨c, ini, nL, rt, tab, 100000, hm, hl, zrunF_ok ih _ _ _ _ _ _ _ q⟩
      · cases q
    · cases q
end
section
/-! A stretch of a method's way, to any place. -/
abbrev zSt : Type := Nat × zL × List Value × zH
def zGo (X : zX) (I : zI) (mcl : Nat → Nat) (C : zC) (c : Nat) (ini : Bool) (nL : Nat) (tab : Nat → Option (Instr × Nat)) : Nat → zSt → zSt → Prop
  | 0, a, b => a = b
  | n + 1, a, b => ∃ (i : Instr) (len : Nat), tab a.1 = some (i, len) ∧
      ((∃ s1 : zSt, zstep X nL ini c i a.1 a.2.1 a.2.2.1 a.2.2.2 = some s1 ∧ zGo X I mcl C c ini nL tab n s1 b) ∨
       (∃ rest : List Value, zobjI I c i a.2.2.1 = some rest ∧ zGo X I mcl C c ini nL tab n (a.1 + 3, a.2.1, rest, a.2.2.2) b) ∨
       (∃ (mi : Nat) (as rest : List Value) (r1 : Option Value) (h1 : zH), zcall X I mcl c i a.2.2.1 a.2.2.2 = some (mi, as, rest) ∧ C mi as a.2.2.2 r1 h1 ∧ zGo X I mcl C c ini nL tab n (a.1 + 3, a.2.1, r1.toList ++ rest, h1) b))
theorem zGo_h {X : zX} {I : zI} {mcl : Nat → Nat} {C : zC} {c : Nat} {ini : Bool} {nL : Nat} {tab : Nat → Option (Instr × Nat)} (hC : ∀ mi as h r h', C mi as h r h' → zLe h h') : ∀ (n : Nat) (a b : zSt), zGo X I mcl C c ini nL tab n a b → zLe a.2.2.2 b.2.2.2 := by
  intro n
  induction n with
  | zero => intro a b q; cases q; exact zLe.rf
  | succ n ih =>
    intro a b q
    obtain ⟨i, len, -, q⟩ := q
    rcases q with ⟨s1, q1, q2⟩ | ⟨rest, -, q2⟩ | ⟨mi, as, rest, r1, h1, -, q1, q2⟩
    · exact (zstep_h q1).trans (ih _ _ q2)
    · exact ih (a.1 + 3, a.2.1, rest, a.2.2.2) b q2
    · exact (hC _ _ _ _ _ q1).trans (ih _ _ q2)
theorem zGo_trans {X : zX} {I : zI} {mcl : Nat → Nat} {C : zC} {c : Nat} {ini : Bool} {nL : Nat} {tab : Nat → Option (Instr × Nat)} : ∀ (n m : Nat) (a b d : zSt), zGo X I mcl C c ini nL tab n a b → zGo X I mcl C c ini nL tab m b d → zGo X I mcl C c ini nL tab (n + m) a d := by
  intro n
  induction n with
  | zero => intro m a b d q r; cases q; rw [Nat.zero_add]; exact r
  | succ n ih =>
    intro m a b d q r
    rw [show n + 1 + m = (n + m) + 1 by omega]
    obtain ⟨i, len, ht, q⟩ := q
    refine ⟨i, len, ht, ?_⟩
    rcases q with ⟨s1, q1, q2⟩ | ⟨rest, q1, q2⟩ | ⟨mi, as, rest, r1, h1, q1, q3, q2⟩
    · exact Or.inl ⟨s1, q1, ih _ _ _ _ q2 r⟩
    · exact Or.inr (Or.inl ⟨rest, q1, ih _ _ _ _ q2 r⟩)
    · exact Or.inr (Or.inr ⟨mi, as, rest, r1, h1, q1, q3, ih _ _ _ _ q2 r⟩)
section ZS
variable {p : Program} {l : Launch} {e : Env} {R : Room} {s : State} {m : MethodId} {args : Array Value} {below : List Frame} {meth : Method} {c : Code} {Q : State → Prop}
variable {cc : ByteArray} {B : Nat} {xa : Nat → Nat} {ca : Nat → ClassId} {D : va_G} {cl : List vw_C}
variable {Ts : List Cond} {P : String} {X : zX} {own : Nat → String} {I : zI} {y : Nat → MethodName × ByteArray} {mcl : Nat → Nat} {mt : zM}
set_option maxHeartbeats 4000000 in
theorem zgo_ok {c0 nL d : Nat} {ini : Bool} {cd0 : Cond} {tab : Nat → Option (Instr × Nat)} {C : zC} (hx : p.tables.exec = Jvm.exec) (hb : c.code = cc) (hml : c.maxLocals = nL) (hts : ∀ w ∈ cd0 :: Ts, w.before args s = true) (hown : s.vm.findClass (own c0) = some m.cls) (hT : zTab Ts cl P X c0 (own c0)) (hG : zGS Ts B xa ca D cl P X own s) (hN : zGN I y own s) (hini : ini = true → meth.name = "<init>") (hB : B ≤ s.heap.size)
    (htab : ∀ (pc : Nat) (i : Instr) (len : Nat), tab pc = some (i, len) → decode cc pc = .ok (i, len) ∧ zlok i len = true) (hCal : zCal Ts I y own mcl mt cl) (hMa : zMath Ts I own) (hM : zMet l B xa ca D cl Ts P X own I y mt d C) (hfr : d + 1 ≤ R.frames) (hlo : (d + 1) * 64 ≤ R.locals) :
    ∀ (n : Nat) (a b : zSt), zGo X I mcl C c0 ini nL tab n a b → ∀ (cells slots : Nat) (H : Heap) (locs : List Loc) (LS : Array Slot), cells + (b.2.2.2.length - a.2.2.2.length) ≤ R.cells → slots + (zsl b.2.2.2 - zsl a.2.2.2) ≤ R.slots → zHR B xa ca D cl a.2.2.2 H → va_S (zA B) s.heap H locs → lv_has LS nL (zcl B xa a.2.1) →
      (∀ (H' : Heap) (locs' : List Loc) (LS' : Array Slot), zHR B xa ca D cl b.2.2.2 H' → va_S (zA B) s.heap H' locs' → lv_has LS' nL (zcl B xa b.2.1) → W p l e R s m args below meth c H' locs' (cells + (b.2.2.2.length - a.2.2.2.length)) (slots + (zsl b.2.2.2 - zsl a.2.2.2)) Q (F0 m b.1 LS' (b.2.2.1.map (zcv B xa)))) →
      W p l e R s m args below meth c H locs cells slots Q (F0 m a.1 LS (a.2.2.1.map (zcv B xa))) := by
  have hts' : ∀ w ∈ Ts, w.before args s = true := fun w h => hts w (List.mem_cons_of_mem _ h)
  have hCh : ∀ mi as h r h', C mi as h r h' → zLe h h' := fun mi as h r h' q => (hM mi as h r h' q).1
  intro n
  induction n with
  | zero =>
    intro a b q cells slots H locs LS hc1 hc2 hR hS hl k
    cases q
    rw [Nat.sub_self, Nat.sub_self, Nat.add_zero, Nat.add_zero] at k
    exact k H locs LS hR hS hl
  | succ n ih =>
    intro a b q cells slots H locs LS hc1 hc2 hR hS hl k
    obtain ⟨pc, ls, st, h⟩ := a
    dsimp only at hc1 hc2 hR hl k ⊢
    obtain ⟨i, len, ht, q⟩ := q
    obtain ⟨hd, hlen⟩ := htab _ _ _ ht
    rcases q with ⟨⟨pc1, ls1, st1, h1⟩, q1, q2⟩ | ⟨rest, q1, q2⟩ | ⟨mi, as, rest, r1, h1, q1, q3, q2⟩
    · have hle := zstep_h q1
      have hle2 := zGo_h hCh _ _ _ q2
      have t1 := hle.1
      have t2 := hle.2
      have t3 := hle2.1
      have t4 := hle2.2
      dsimp only at t1 t2 t3 t4
      refine zstep_ok hx hb hd hlen hts' hown hT hG hini hR hS hB hl ⟨by omega, by omega⟩ q1 (fun H' locs' LS' g1 g2 g3 => ?_)
      refine ih _ _ q2 (cells + (h1.length - h.length)) (slots + (zsl h1 - zsl h)) _ _ _ (by dsimp only; omega) (by dsimp only; omega) g1 g2 g3 (fun H2 locs2 LS2 f1 f2 f3 => ?_)
      dsimp only
      rw [show cells + (h1.length - h.length) + (b.2.2.2.length - h1.length) = cells + (b.2.2.2.length - h.length) by omega, show slots + (zsl h1 - zsl h) + (zsl b.2.2.2 - zsl h1) = slots + (zsl b.2.2.2 - zsl h) by omega]
      exact k H2 locs2 LS2 f1 f2 f3
    · have hle2 := zGo_h hCh _ _ _ q2
      have y1 := hle2.1
      have y2 := hle2.2
      dsimp only at y1 y2
      cases i with
      | invokespecial j =>
        obtain rfl : len = 3 := eq_of_beq hlen
        dsimp only [zobjI] at q1
        split at q1
        · next hI =>
          split at q1
          · next hw =>
            cases q1
            obtain ⟨w0, -⟩ := hCal.2.2.2 _ _ _ _ _ hI
            obtain ⟨w1, w2, w3⟩ := w0 rfl
            have h8 := zw8_map (B := B) (xa := xa) hw
            exact W.objInit hx hb hown (hts' _ w1) (hts' _ w2) (hts' _ w3) rfl (hl.1.trans hml.symm) rfl hd (by omega) (by show 2 * 0 + _ + 12 ≤ _; omega) (ih _ _ q2 cells slots _ _ _ hc1 hc2 hR hS hl k)
          · cases q1
        · cases q1
      | invokestatic j =>
        obtain rfl : len = 3 := eq_of_beq hlen
        dsimp only [zobjI] at q1
        split at q1
        · next hI =>
          split at q1
          · next hw =>
            cases q1
            obtain ⟨w1, w2, w3, w4⟩ := (hMa _ _ _ _ _ hI).1 rfl
            have h8 := zw8_map (B := B) (xa := xa) hw
            exact va_mmax hx hb (hml.trans hl.1.symm) hown (hts' _ w1) (hts' _ w2) (hts' _ w3) (hts' _ w4) (by omega) (by omega) (by omega) (by omega) hd (ih _ _ q2 cells slots _ _ _ hc1 hc2 hR hS hl k)
          · cases q1
        · next hI =>
          split at q1
          · next hw =>
            cases q1
            obtain ⟨w1, w2, w3, w4⟩ := (hMa _ _ _ _ _ hI).2.1 rfl
            have h8 := zw8_map (B := B) (xa := xa) hw
            exact va_mmin hx hb (hml.trans hl.1.symm) hown (hts' _ w1) (hts' _ w2) (hts' _ w3) (hts' _ w4) (by omega) (by omega) (by omega) (by omega) hd (ih _ _ q2 cells slots _ _ _ hc1 hc2 hR hS hl k)
          · cases q1
        · next hI =>
          split at q1
          · next hw =>
            cases q1
            obtain ⟨w1, w2, w3, w4⟩ := (hMa _ _ _ _ _ hI).2.2.1 rfl
            have h8 := zw8_map (B := B) (xa := xa) hw
            exact va_mabs hx hb (hml.trans hl.1.symm) hown (hts' _ w1) (hts' _ w2) (hts' _ w3) (hts' _ w4) (by omega) (by omega) (by omega) (by omega) hd (ih _ _ q2 cells slots _ _ _ hc1 hc2 hR hS hl k)
          · cases q1
        · next hI =>
          split at q1
          · next hw =>
            cases q1
            obtain ⟨w1, w2, w3, w4⟩ := (hMa _ _ _ _ _ hI).2.2.2.1 rfl
            have h8 := zw8_map (B := B) (xa := xa) hw
            exact va_mmax_long hx hb (hml.trans hl.1.symm) hown (hts' _ w1) (hts' _ w2) (hts' _ w3) (hts' _ w4) (by omega) (by omega) (by omega) (by omega) hd (ih _ _ q2 cells slots _ _ _ hc1 hc2 hR hS hl k)
          · cases q1
        · next hI =>
          split at q1
          · next hw =>
            cases q1
            obtain ⟨w1, w2, w3, w4⟩ := (hMa _ _ _ _ _ hI).2.2.2.2.1 rfl
            have h8 := zw8_map (B := B) (xa := xa) hw
            exact va_mmin_long hx hb (hml.trans hl.1.symm) hown (hts' _ w1) (hts' _ w2) (hts' _ w3) (hts' _ w4) (by omega) (by omega) (by omega) (by omega) hd (ih _ _ q2 cells slots _ _ _ hc1 hc2 hR hS hl k)
          · cases q1
        · next hI =>
          split at q1
          · next hw =>
            cases q1
            obtain ⟨w1, w2, w3, w4⟩ := (hMa _ _ _ _ _ hI).2.2.2.2.2 rfl
            have h8 := zw8_map (B := B) (xa := xa) hw
            exact va_mabs_long hx hb (hml.trans hl.1.symm) hown (hts' _ w1) (hts' _ w2) (hts' _ w3) (hts' _ w4) (by omega) (by omega) (by omega) (by omega) hd (ih _ _ q2 cells slots _ _ _ hc1 hc2 hR hS hl k)
          · cases q1
        · cases q1
      | _ => exact nomatch (show (none : Option (List Value)) = some _ from q1)
    · dsimp only at q1 q3
      obtain ⟨hle, c1, ini1, nL1, rt1, tab1, hmi, hMet⟩ := hM _ _ _ _ _ q3
      have hle2 := zGo_h hCh _ _ _ q2
      have g1 := hle.1
      have g2 := hle.2
      have g3 := hle2.1
      have g4 := hle2.2
      dsimp only at g3 g4
      refine zcall_W (zcall_ok (d := d) hx hb hml hd hlen hts hown hG hN hCal hR hS hl.1 q1 hmi hMet hfr hlo ⟨by omega, by omega⟩) hS (fun H1 locs1 k1 k2 => ?_)
      have k9 := ih _ _ q2 (cells + (h1.length - h.length)) (slots + (zsl h1 - zsl h)) _ _ _ (by dsimp only; omega) (by dsimp only; omega) k1 k2 hl (fun H2 locs2 LS2 f1 f2 f3 => by
        dsimp only
        rw [show cells + (h1.length - h.length) + (b.2.2.2.length - h1.length) = cells + (b.2.2.2.length - h.length) by omega, show slots + (zsl h1 - zsl h) + (zsl b.2.2.2 - zsl h1) = slots + (zsl b.2.2.2 - zsl h) by omega]
        exact k H2 locs2 LS2 f1 f2 f3)
      dsimp only at k9
      rw [List.map_append] at k9
      have k8 : (r1.map (zcv B xa)).toList = r1.toList.map (zcv B xa) := by cases r1 <;> rfl
      rw [k8]
      exact k9
end ZS
end
